theorem dX0_init_0 : decode cX0_init 0 = .ok (.aload_n 0, 1) := by decide +kernel
theorem dX0_init_1 : decode cX0_init 1 = .ok (.invokespecial 3, 3) := by decide +kernel
theorem dX0_init_4 : decode cX0_init 4 = .ok (.aload_n 0, 1) := by decide +kernel
theorem dX0_init_5 : decode cX0_init 5 = .ok (.bipush 60, 2) := by decide +kernel
theorem dX0_init_7 : decode cX0_init 7 = .ok (.newarray .int, 2) := by decide +kernel
theorem dX0_init_9 : decode cX0_init 9 = .ok (.putfield 9, 3) := by decide +kernel
theorem dX0_init_12 : decode cX0_init 12 = .ok (.return_, 1) := by decide +kernel
theorem dX0_write_0 : decode cX0_write 0 = .ok (.aload_n 0, 1) := by decide +kernel
theorem dX0_write_1 : decode cX0_write 1 = .ok (.getfield 15, 3) := by decide +kernel
theorem dX0_write_4 : decode cX0_write 4 = .ok (.bipush 60, 2) := by decide +kernel
theorem dX0_write_6 : decode cX0_write 6 = .ok (.if_icmp .lt 5, 3) := by decide +kernel
theorem dX0_write_9 : decode cX0_write 9 = .ok (.iconst 0, 1) := by decide +kernel
theorem dX0_write_10 : decode cX0_write 10 = .ok (.ireturn, 1) := by decide +kernel
theorem dX0_write_11 : decode cX0_write 11 = .ok (.aload_n 0, 1) := by decide +kernel
theorem dX0_write_12 : decode cX0_write 12 = .ok (.getfield 9, 3) := by decide +kernel
theorem dX0_write_15 : decode cX0_write 15 = .ok (.aload_n 0, 1) := by decide +kernel
theorem dX0_write_16 : decode cX0_write 16 = .ok (.getfield 15, 3) := by decide +kernel
theorem dX0_write_19 : decode cX0_write 19 = .ok (.iload_n 1, 1) := by decide +kernel
theorem dX0_write_20 : decode cX0_write 20 = .ok (.iastore, 1) := by decide +kernel
theorem dX0_write_21 : decode cX0_write 21 = .ok (.aload_n 0, 1) := by decide +kernel
theorem dX0_write_22 : decode cX0_write 22 = .ok (.dup, 1) := by decide +kernel
theorem dX0_write_23 : decode cX0_write 23 = .ok (.getfield 15, 3) := by decide +kernel
theorem dX0_write_26 : decode cX0_write 26 = .ok (.iconst 1, 1) := by decide +kernel
theorem dX0_write_27 : decode cX0_write 27 = .ok (.iadd, 1) := by decide +kernel
theorem dX0_write_28 : decode cX0_write 28 = .ok (.putfield 15, 3) := by decide +kernel
theorem dX0_write_31 : decode cX0_write 31 = .ok (.iconst 1, 1) := by decide +kernel
theorem dX0_write_32 : decode cX0_write 32 = .ok (.ireturn, 1) := by decide +kernel
theorem dX0_clean_0 : decode cX0_clean 0 = .ok (.aload_n 0, 1) := by decide +kernel
theorem dX0_clean_1 : decode cX0_clean 1 = .ok (.getfield 15, 3) := by decide +kernel
theorem dX0_clean_4 : decode cX0_clean 4 = .ok (.istore_n 1, 1) := by decide +kernel
theorem dX0_clean_5 : decode cX0_clean 5 = .ok (.aload_n 0, 1) := by decide +kernel
theorem dX0_clean_6 : decode cX0_clean 6 = .ok (.iconst 0, 1) := by decide +kernel
theorem dX0_clean_7 : decode cX0_clean 7 = .ok (.putfield 15, 3) := by decide +kernel
theorem dX0_clean_10 : decode cX0_clean 10 = .ok (.iload_n 1, 1) := by decide +kernel
theorem dX0_clean_11 : decode cX0_clean 11 = .ok (.ireturn, 1) := by decide +kernel
theorem dX0_faultPlace_0 : decode cX0_faultPlace 0 = .ok (.iconst 0, 1) := by decide +kernel
theorem dX0_faultPlace_1 : decode cX0_faultPlace 1 = .ok (.istore_n 1, 1) := by decide +kernel
theorem dX0_faultPlace_2 : decode cX0_faultPlace 2 = .ok (.iconst 0, 1) := by decide +kernel
theorem dX0_faultPlace_3 : decode cX0_faultPlace 3 = .ok (.istore_n 2, 1) := by decide +kernel
theorem dX0_faultPlace_4 : decode cX0_faultPlace 4 = .ok (.iload_n 2, 1) := by decide +kernel
theorem dX0_faultPlace_5 : decode cX0_faultPlace 5 = .ok (.aload_n 0, 1) := by decide +kernel
theorem dX0_faultPlace_6 : decode cX0_faultPlace 6 = .ok (.getfield 15, 3) := by decide +kernel
theorem dX0_faultPlace_9 : decode cX0_faultPlace 9 = .ok (.if_icmp .ge 65, 3) := by decide +kernel
theorem dX0_faultPlace_12 : decode cX0_faultPlace 12 = .ok (.iload_n 2, 1) := by decide +kernel
theorem dX0_faultPlace_13 : decode cX0_faultPlace 13 = .ok (.bipush 60, 2) := by decide +kernel
theorem dX0_faultPlace_15 : decode cX0_faultPlace 15 = .ok (.if_icmp .ge 59, 3) := by decide +kernel
theorem dX0_faultPlace_18 : decode cX0_faultPlace 18 = .ok (.aload_n 0, 1) := by decide +kernel
theorem dX0_faultPlace_19 : decode cX0_faultPlace 19 = .ok (.getfield 9, 3) := by decide +kernel
theorem dX0_faultPlace_22 : decode cX0_faultPlace 22 = .ok (.iload_n 2, 1) := by decide +kernel
theorem dX0_faultPlace_23 : decode cX0_faultPlace 23 = .ok (.iaload, 1) := by decide +kernel
theorem dX0_faultPlace_24 : decode cX0_faultPlace 24 = .ok (.istore_n 3, 1) := by decide +kernel
theorem dX0_faultPlace_25 : decode cX0_faultPlace 25 = .ok (.iload_n 1, 1) := by decide +kernel
theorem dX0_faultPlace_26 : decode cX0_faultPlace 26 = .ok (.ifCond .eq 17, 3) := by decide +kernel
theorem dX0_faultPlace_29 : decode cX0_faultPlace 29 = .ok (.iload_n 3, 1) := by decide +kernel
theorem dX0_faultPlace_30 : decode cX0_faultPlace 30 = .ok (.bipush 48, 2) := by decide +kernel
theorem dX0_faultPlace_32 : decode cX0_faultPlace 32 = .ok (.bipush 57, 2) := by decide +kernel
theorem dX0_faultPlace_34 : decode cX0_faultPlace 34 = .ok (.invokestatic 19, 3) := by decide +kernel
theorem dX0_faultPlace_37 : decode cX0_faultPlace 37 = .ok (.ifCond .eq 15, 3) := by decide +kernel
theorem dX0_faultPlace_40 : decode cX0_faultPlace 40 = .ok (.goto 10, 3) := by decide +kernel
theorem dX0_faultPlace_43 : decode cX0_faultPlace 43 = .ok (.iload_n 3, 1) := by decide +kernel
theorem dX0_faultPlace_44 : decode cX0_faultPlace 44 = .ok (.invokestatic 23, 3) := by decide +kernel
theorem dX0_faultPlace_47 : decode cX0_faultPlace 47 = .ok (.ifCond .ne 5, 3) := by decide +kernel
theorem dX0_faultPlace_50 : decode cX0_faultPlace 50 = .ok (.iload_n 2, 1) := by decide +kernel
theorem dX0_faultPlace_51 : decode cX0_faultPlace 51 = .ok (.ireturn, 1) := by decide +kernel
theorem dX0_faultPlace_52 : decode cX0_faultPlace 52 = .ok (.iload_n 1, 1) := by decide +kernel
theorem dX0_faultPlace_53 : decode cX0_faultPlace 53 = .ok (.ifCond .ne 13, 3) := by decide +kernel
theorem dX0_faultPlace_56 : decode cX0_faultPlace 56 = .ok (.iload_n 3, 1) := by decide +kernel
theorem dX0_faultPlace_57 : decode cX0_faultPlace 57 = .ok (.bipush 104, 2) := by decide +kernel
theorem dX0_faultPlace_59 : decode cX0_faultPlace 59 = .ok (.if_icmp .ne 7, 3) := by decide +kernel
theorem dX0_faultPlace_62 : decode cX0_faultPlace 62 = .ok (.iconst 1, 1) := by decide +kernel
theorem dX0_faultPlace_63 : decode cX0_faultPlace 63 = .ok (.goto 4, 3) := by decide +kernel
theorem dX0_faultPlace_66 : decode cX0_faultPlace 66 = .ok (.iconst 0, 1) := by decide +kernel
theorem dX0_faultPlace_67 : decode cX0_faultPlace 67 = .ok (.istore_n 1, 1) := by decide +kernel
theorem dX0_faultPlace_68 : decode cX0_faultPlace 68 = .ok (.iinc 2 1, 3) := by decide +kernel
theorem dX0_faultPlace_71 : decode cX0_faultPlace 71 = .ok (.goto (-67), 3) := by decide +kernel
theorem dX0_faultPlace_74 : decode cX0_faultPlace 74 = .ok (.iload_n 1, 1) := by decide +kernel
theorem dX0_faultPlace_75 : decode cX0_faultPlace 75 = .ok (.ifCond .eq 10, 3) := by decide +kernel
theorem dX0_faultPlace_78 : decode cX0_faultPlace 78 = .ok (.aload_n 0, 1) := by decide +kernel
theorem dX0_faultPlace_79 : decode cX0_faultPlace 79 = .ok (.getfield 15, 3) := by decide +kernel
theorem dX0_faultPlace_82 : decode cX0_faultPlace 82 = .ok (.goto 5, 3) := by decide +kernel
theorem dX0_faultPlace_85 : decode cX0_faultPlace 85 = .ok (.bipush (-6), 2) := by decide +kernel
theorem dX0_faultPlace_87 : decode cX0_faultPlace 87 = .ok (.ireturn, 1) := by decide +kernel
theorem dX0_isAct_0 : decode cX0_isAct 0 = .ok (.iload_n 0, 1) := by decide +kernel
theorem dX0_isAct_1 : decode cX0_isAct 1 = .ok (.bipush 46, 2) := by decide +kernel
theorem dX0_isAct_3 : decode cX0_isAct 3 = .ok (.if_icmp .eq 21, 3) := by decide +kernel
theorem dX0_isAct_6 : decode cX0_isAct 6 = .ok (.iload_n 0, 1) := by decide +kernel
theorem dX0_isAct_7 : decode cX0_isAct 7 = .ok (.bipush 104, 2) := by decide +kernel
theorem dX0_isAct_9 : decode cX0_isAct 9 = .ok (.if_icmp .eq 15, 3) := by decide +kernel
theorem dX0_isAct_12 : decode cX0_isAct 12 = .ok (.iload_n 0, 1) := by decide +kernel
theorem dX0_isAct_13 : decode cX0_isAct 13 = .ok (.bipush 33, 2) := by decide +kernel
theorem dX0_isAct_15 : decode cX0_isAct 15 = .ok (.if_icmp .eq 9, 3) := by decide +kernel
theorem dX0_isAct_18 : decode cX0_isAct 18 = .ok (.iload_n 0, 1) := by decide +kernel
theorem dX0_isAct_19 : decode cX0_isAct 19 = .ok (.bipush 110, 2) := by decide +kernel
theorem dX0_isAct_21 : decode cX0_isAct 21 = .ok (.if_icmp .ne 7, 3) := by decide +kernel
theorem dX0_isAct_24 : decode cX0_isAct 24 = .ok (.iconst 1, 1) := by decide +kernel
theorem dX0_isAct_25 : decode cX0_isAct 25 = .ok (.goto 4, 3) := by decide +kernel
theorem dX0_isAct_28 : decode cX0_isAct 28 = .ok (.iconst 0, 1) := by decide +kernel
theorem dX0_isAct_29 : decode cX0_isAct 29 = .ok (.ireturn, 1) := by decide +kernel
theorem dX0_toneBehind_0 : decode cX0_toneBehind 0 = .ok (.iload_n 1, 1) := by decide +kernel
theorem dX0_toneBehind_1 : decode cX0_toneBehind 1 = .ok (.iconst 1, 1) := by decide +kernel
theorem dX0_toneBehind_2 : decode cX0_toneBehind 2 = .ok (.iadd, 1) := by decide +kernel
theorem dX0_toneBehind_3 : decode cX0_toneBehind 3 = .ok (.istore_n 2, 1) := by decide +kernel
theorem dX0_toneBehind_4 : decode cX0_toneBehind 4 = .ok (.iload_n 2, 1) := by decide +kernel
theorem dX0_toneBehind_5 : decode cX0_toneBehind 5 = .ok (.aload_n 0, 1) := by decide +kernel
theorem dX0_toneBehind_6 : decode cX0_toneBehind 6 = .ok (.getfield 15, 3) := by decide +kernel
theorem dX0_toneBehind_9 : decode cX0_toneBehind 9 = .ok (.if_icmp .ge 21, 3) := by decide +kernel
theorem dX0_toneBehind_12 : decode cX0_toneBehind 12 = .ok (.iload_n 2, 1) := by decide +kernel
theorem dX0_toneBehind_13 : decode cX0_toneBehind 13 = .ok (.bipush 60, 2) := by decide +kernel
theorem dX0_toneBehind_15 : decode cX0_toneBehind 15 = .ok (.if_icmp .ge 15, 3) := by decide +kernel
theorem dX0_toneBehind_18 : decode cX0_toneBehind 18 = .ok (.aload_n 0, 1) := by decide +kernel
theorem dX0_toneBehind_19 : decode cX0_toneBehind 19 = .ok (.getfield 9, 3) := by decide +kernel
theorem dX0_toneBehind_22 : decode cX0_toneBehind 22 = .ok (.iload_n 2, 1) := by decide +kernel
theorem dX0_toneBehind_23 : decode cX0_toneBehind 23 = .ok (.iaload, 1) := by decide +kernel
theorem dX0_toneBehind_24 : decode cX0_toneBehind 24 = .ok (.bipush 48, 2) := by decide +kernel
theorem dX0_toneBehind_26 : decode cX0_toneBehind 26 = .ok (.isub, 1) := by decide +kernel
theorem dX0_toneBehind_27 : decode cX0_toneBehind 27 = .ok (.goto 4, 3) := by decide +kernel
theorem dX0_toneBehind_30 : decode cX0_toneBehind 30 = .ok (.iconst 0, 1) := by decide +kernel
theorem dX0_toneBehind_31 : decode cX0_toneBehind 31 = .ok (.ireturn, 1) := by decide +kernel
theorem dX1_init_0 : decode cX1_init 0 = .ok (.aload_n 0, 1) := by decide +kernel
theorem dX1_init_1 : decode cX1_init 1 = .ok (.invokespecial 3, 3) := by decide +kernel
theorem dX1_init_4 : decode cX1_init 4 = .ok (.aload_n 0, 1) := by decide +kernel
theorem dX1_init_5 : decode cX1_init 5 = .ok (.new 9, 3) := by decide +kernel
theorem dX1_init_8 : decode cX1_init 8 = .ok (.dup, 1) := by decide +kernel
theorem dX1_init_9 : decode cX1_init 9 = .ok (.invokespecial 11, 3) := by decide +kernel
theorem dX1_init_12 : decode cX1_init 12 = .ok (.putfield 12, 3) := by decide +kernel
theorem dX1_init_15 : decode cX1_init 15 = .ok (.aload_n 0, 1) := by decide +kernel
theorem dX1_init_16 : decode cX1_init 16 = .ok (.bipush 8, 2) := by decide +kernel
theorem dX1_init_18 : decode cX1_init 18 = .ok (.newarray .int, 2) := by decide +kernel
theorem dX1_init_20 : decode cX1_init 20 = .ok (.putfield 18, 3) := by decide +kernel
theorem dX1_init_23 : decode cX1_init 23 = .ok (.aload_n 0, 1) := by decide +kernel
theorem dX1_init_24 : decode cX1_init 24 = .ok (.sipush 1023, 3) := by decide +kernel
theorem dX1_init_27 : decode cX1_init 27 = .ok (.putfield 22, 3) := by decide +kernel
theorem dX1_init_30 : decode cX1_init 30 = .ok (.aload_n 0, 1) := by decide +kernel
theorem dX1_init_31 : decode cX1_init 31 = .ok (.getfield 18, 3) := by decide +kernel
theorem dX1_init_34 : decode cX1_init 34 = .ok (.bipush 8, 2) := by decide +kernel
theorem dX1_init_36 : decode cX1_init 36 = .ok (.invokestatic 26, 3) := by decide +kernel
theorem dX1_init_39 : decode cX1_init 39 = .ok (.return_, 1) := by decide +kernel
theorem dX1_copyFrom_0 : decode cX1_copyFrom 0 = .ok (.aload_n 0, 1) := by decide +kernel
theorem dX1_copyFrom_1 : decode cX1_copyFrom 1 = .ok (.getfield 12, 3) := by decide +kernel
theorem dX1_copyFrom_4 : decode cX1_copyFrom 4 = .ok (.aload_n 1, 1) := by decide +kernel
theorem dX1_copyFrom_5 : decode cX1_copyFrom 5 = .ok (.getfield 12, 3) := by decide +kernel
theorem dX1_copyFrom_8 : decode cX1_copyFrom 8 = .ok (.invokevirtual 32, 3) := by decide +kernel
theorem dX1_copyFrom_11 : decode cX1_copyFrom 11 = .ok (.aload_n 1, 1) := by decide +kernel
theorem dX1_copyFrom_12 : decode cX1_copyFrom 12 = .ok (.getfield 18, 3) := by decide +kernel
theorem dX1_copyFrom_15 : decode cX1_copyFrom 15 = .ok (.iconst 0, 1) := by decide +kernel
theorem dX1_copyFrom_16 : decode cX1_copyFrom 16 = .ok (.aload_n 0, 1) := by decide +kernel
theorem dX1_copyFrom_17 : decode cX1_copyFrom 17 = .ok (.getfield 18, 3) := by decide +kernel
theorem dX1_copyFrom_20 : decode cX1_copyFrom 20 = .ok (.iconst 0, 1) := by decide +kernel
theorem dX1_copyFrom_21 : decode cX1_copyFrom 21 = .ok (.bipush 8, 2) := by decide +kernel
theorem dX1_copyFrom_23 : decode cX1_copyFrom 23 = .ok (.invokestatic 36, 3) := by decide +kernel
theorem dX1_copyFrom_26 : decode cX1_copyFrom 26 = .ok (.aload_n 0, 1) := by decide +kernel
theorem dX1_copyFrom_27 : decode cX1_copyFrom 27 = .ok (.aload_n 1, 1) := by decide +kernel
theorem dX1_copyFrom_28 : decode cX1_copyFrom 28 = .ok (.getfield 42, 3) := by decide +kernel
theorem dX1_copyFrom_31 : decode cX1_copyFrom 31 = .ok (.putfield 42, 3) := by decide +kernel
theorem dX1_copyFrom_34 : decode cX1_copyFrom 34 = .ok (.aload_n 0, 1) := by decide +kernel
theorem dX1_copyFrom_35 : decode cX1_copyFrom 35 = .ok (.aload_n 1, 1) := by decide +kernel
theorem dX1_copyFrom_36 : decode cX1_copyFrom 36 = .ok (.getfield 22, 3) := by decide +kernel
theorem dX1_copyFrom_39 : decode cX1_copyFrom 39 = .ok (.putfield 22, 3) := by decide +kernel
theorem dX1_copyFrom_42 : decode cX1_copyFrom 42 = .ok (.return_, 1) := by decide +kernel
theorem dX1_speakers_0 : decode cX1_speakers 0 = .ok (.iload_n 1, 1) := by decide +kernel
theorem dX1_speakers_1 : decode cX1_speakers 1 = .ok (.istore_n 3, 1) := by decide +kernel
theorem dX1_speakers_2 : decode cX1_speakers 2 = .ok (.iconst 0, 1) := by decide +kernel
theorem dX1_speakers_3 : decode cX1_speakers 3 = .ok (.istore 4, 2) := by decide +kernel
theorem dX1_speakers_5 : decode cX1_speakers 5 = .ok (.iload 4, 2) := by decide +kernel
theorem dX1_speakers_7 : decode cX1_speakers 7 = .ok (.bipush 8, 2) := by decide +kernel
theorem dX1_speakers_9 : decode cX1_speakers 9 = .ok (.if_icmp .ge 33, 3) := by decide +kernel
theorem dX1_speakers_12 : decode cX1_speakers 12 = .ok (.iload_n 3, 1) := by decide +kernel
theorem dX1_speakers_13 : decode cX1_speakers 13 = .ok (.aload_n 0, 1) := by decide +kernel
theorem dX1_speakers_14 : decode cX1_speakers 14 = .ok (.iload_n 3, 1) := by decide +kernel
theorem dX1_speakers_15 : decode cX1_speakers 15 = .ok (.invokevirtual 45, 3) := by decide +kernel
theorem dX1_speakers_18 : decode cX1_speakers 18 = .ok (.iload_n 2, 1) := by decide +kernel
theorem dX1_speakers_19 : decode cX1_speakers 19 = .ok (.iconst (-1), 1) := by decide +kernel
theorem dX1_speakers_20 : decode cX1_speakers 20 = .ok (.ixor, 1) := by decide +kernel
theorem dX1_speakers_21 : decode cX1_speakers 21 = .ok (.iand, 1) := by decide +kernel
theorem dX1_speakers_22 : decode cX1_speakers 22 = .ok (.ior, 1) := by decide +kernel
theorem dX1_speakers_23 : decode cX1_speakers 23 = .ok (.istore 5, 2) := by decide +kernel
theorem dX1_speakers_25 : decode cX1_speakers 25 = .ok (.iload 5, 2) := by decide +kernel
theorem dX1_speakers_27 : decode cX1_speakers 27 = .ok (.iload_n 3, 1) := by decide +kernel
theorem dX1_speakers_28 : decode cX1_speakers 28 = .ok (.if_icmp .ne 5, 3) := by decide +kernel
theorem dX1_speakers_31 : decode cX1_speakers 31 = .ok (.iload_n 3, 1) := by decide +kernel
theorem dX1_speakers_32 : decode cX1_speakers 32 = .ok (.ireturn, 1) := by decide +kernel
theorem dX1_speakers_33 : decode cX1_speakers 33 = .ok (.iload 5, 2) := by decide +kernel
theorem dX1_speakers_35 : decode cX1_speakers 35 = .ok (.istore_n 3, 1) := by decide +kernel
theorem dX1_speakers_36 : decode cX1_speakers 36 = .ok (.iinc 4 1, 3) := by decide +kernel
theorem dX1_speakers_39 : decode cX1_speakers 39 = .ok (.goto (-34), 3) := by decide +kernel
theorem dX1_speakers_42 : decode cX1_speakers 42 = .ok (.iload_n 3, 1) := by decide +kernel
theorem dX1_speakers_43 : decode cX1_speakers 43 = .ok (.ireturn, 1) := by decide +kernel
theorem dX1_moved_0 : decode cX1_moved 0 = .ok (.iload_n 1, 1) := by decide +kernel
theorem dX1_moved_1 : decode cX1_moved 1 = .ok (.invokestatic 49, 3) := by decide +kernel
theorem dX1_moved_4 : decode cX1_moved 4 = .ok (.istore_n 2, 1) := by decide +kernel
theorem dX1_moved_5 : decode cX1_moved 5 = .ok (.iconst 0, 1) := by decide +kernel
theorem dX1_moved_6 : decode cX1_moved 6 = .ok (.istore_n 3, 1) := by decide +kernel
theorem dX1_moved_7 : decode cX1_moved 7 = .ok (.iconst 0, 1) := by decide +kernel
theorem dX1_moved_8 : decode cX1_moved 8 = .ok (.istore 4, 2) := by decide +kernel
theorem dX1_moved_10 : decode cX1_moved 10 = .ok (.iload 4, 2) := by decide +kernel
theorem dX1_moved_12 : decode cX1_moved 12 = .ok (.bipush 8, 2) := by decide +kernel
theorem dX1_moved_14 : decode cX1_moved 14 = .ok (.if_icmp .ge 36, 3) := by decide +kernel
theorem dX1_moved_17 : decode cX1_moved 17 = .ok (.iload_n 1, 1) := by decide +kernel
theorem dX1_moved_18 : decode cX1_moved 18 = .ok (.iload 4, 2) := by decide +kernel
theorem dX1_moved_20 : decode cX1_moved 20 = .ok (.ishr, 1) := by decide +kernel
theorem dX1_moved_21 : decode cX1_moved 21 = .ok (.iconst 1, 1) := by decide +kernel
theorem dX1_moved_22 : decode cX1_moved 22 = .ok (.iand, 1) := by decide +kernel
theorem dX1_moved_23 : decode cX1_moved 23 = .ok (.ifCond .ne 21, 3) := by decide +kernel
theorem dX1_moved_26 : decode cX1_moved 26 = .ok (.iload_n 2, 1) := by decide +kernel
theorem dX1_moved_27 : decode cX1_moved 27 = .ok (.aload_n 0, 1) := by decide +kernel
theorem dX1_moved_28 : decode cX1_moved 28 = .ok (.getfield 18, 3) := by decide +kernel
theorem dX1_moved_31 : decode cX1_moved 31 = .ok (.iload 4, 2) := by decide +kernel
theorem dX1_moved_33 : decode cX1_moved 33 = .ok (.iaload, 1) := by decide +kernel
theorem dX1_moved_34 : decode cX1_moved 34 = .ok (.if_icmp .lt 10, 3) := by decide +kernel
theorem dX1_moved_37 : decode cX1_moved 37 = .ok (.iload_n 3, 1) := by decide +kernel
theorem dX1_moved_38 : decode cX1_moved 38 = .ok (.iconst 1, 1) := by decide +kernel
theorem dX1_moved_39 : decode cX1_moved 39 = .ok (.iload 4, 2) := by decide +kernel
theorem dX1_moved_41 : decode cX1_moved 41 = .ok (.ishl, 1) := by decide +kernel
theorem dX1_moved_42 : decode cX1_moved 42 = .ok (.ior, 1) := by decide +kernel
theorem dX1_moved_43 : decode cX1_moved 43 = .ok (.istore_n 3, 1) := by decide +kernel
theorem dX1_moved_44 : decode cX1_moved 44 = .ok (.iinc 4 1, 3) := by decide +kernel
theorem dX1_moved_47 : decode cX1_moved 47 = .ok (.goto (-37), 3) := by decide +kernel
theorem dX1_moved_50 : decode cX1_moved 50 = .ok (.iload_n 3, 1) := by decide +kernel
theorem dX1_moved_51 : decode cX1_moved 51 = .ok (.ireturn, 1) := by decide +kernel
theorem dX1_fewestSilent_0 : decode cX1_fewestSilent 0 = .ok (.bipush (-6), 2) := by decide +kernel
theorem dX1_fewestSilent_2 : decode cX1_fewestSilent 2 = .ok (.istore_n 3, 1) := by decide +kernel
theorem dX1_fewestSilent_3 : decode cX1_fewestSilent 3 = .ok (.bipush 9, 2) := by decide +kernel
theorem dX1_fewestSilent_5 : decode cX1_fewestSilent 5 = .ok (.istore 4, 2) := by decide +kernel
theorem dX1_fewestSilent_7 : decode cX1_fewestSilent 7 = .ok (.iconst 0, 1) := by decide +kernel
theorem dX1_fewestSilent_8 : decode cX1_fewestSilent 8 = .ok (.istore 5, 2) := by decide +kernel
theorem dX1_fewestSilent_10 : decode cX1_fewestSilent 10 = .ok (.iload 5, 2) := by decide +kernel
theorem dX1_fewestSilent_12 : decode cX1_fewestSilent 12 = .ok (.sipush 255, 3) := by decide +kernel
theorem dX1_fewestSilent_15 : decode cX1_fewestSilent 15 = .ok (.if_icmp .gt 51, 3) := by decide +kernel
theorem dX1_fewestSilent_18 : decode cX1_fewestSilent 18 = .ok (.iload 5, 2) := by decide +kernel
theorem dX1_fewestSilent_20 : decode cX1_fewestSilent 20 = .ok (.invokestatic 49, 3) := by decide +kernel
theorem dX1_fewestSilent_23 : decode cX1_fewestSilent 23 = .ok (.istore 6, 2) := by decide +kernel
theorem dX1_fewestSilent_25 : decode cX1_fewestSilent 25 = .ok (.iload 5, 2) := by decide +kernel
theorem dX1_fewestSilent_27 : decode cX1_fewestSilent 27 = .ok (.iload_n 1, 1) := by decide +kernel
theorem dX1_fewestSilent_28 : decode cX1_fewestSilent 28 = .ok (.iand, 1) := by decide +kernel
theorem dX1_fewestSilent_29 : decode cX1_fewestSilent 29 = .ok (.ifCond .ne 31, 3) := by decide +kernel
theorem dX1_fewestSilent_32 : decode cX1_fewestSilent 32 = .ok (.iload 6, 2) := by decide +kernel
theorem dX1_fewestSilent_34 : decode cX1_fewestSilent 34 = .ok (.iload 4, 2) := by decide +kernel
theorem dX1_fewestSilent_36 : decode cX1_fewestSilent 36 = .ok (.if_icmp .ge 24, 3) := by decide +kernel
theorem dX1_fewestSilent_39 : decode cX1_fewestSilent 39 = .ok (.aload_n 0, 1) := by decide +kernel
theorem dX1_fewestSilent_40 : decode cX1_fewestSilent 40 = .ok (.iload_n 1, 1) := by decide +kernel
theorem dX1_fewestSilent_41 : decode cX1_fewestSilent 41 = .ok (.iload 5, 2) := by decide +kernel
theorem dX1_fewestSilent_43 : decode cX1_fewestSilent 43 = .ok (.invokevirtual 54, 3) := by decide +kernel
theorem dX1_fewestSilent_46 : decode cX1_fewestSilent 46 = .ok (.invokestatic 49, 3) := by decide +kernel
theorem dX1_fewestSilent_49 : decode cX1_fewestSilent 49 = .ok (.iload_n 2, 1) := by decide +kernel
theorem dX1_fewestSilent_50 : decode cX1_fewestSilent 50 = .ok (.if_icmp .gt 10, 3) := by decide +kernel
theorem dX1_fewestSilent_53 : decode cX1_fewestSilent 53 = .ok (.iload 5, 2) := by decide +kernel
theorem dX1_fewestSilent_55 : decode cX1_fewestSilent 55 = .ok (.istore_n 3, 1) := by decide +kernel
theorem dX1_fewestSilent_56 : decode cX1_fewestSilent 56 = .ok (.iload 6, 2) := by decide +kernel
theorem dX1_fewestSilent_58 : decode cX1_fewestSilent 58 = .ok (.istore 4, 2) := by decide +kernel
theorem dX1_fewestSilent_60 : decode cX1_fewestSilent 60 = .ok (.iinc 5 1, 3) := by decide +kernel
theorem dX1_fewestSilent_63 : decode cX1_fewestSilent 63 = .ok (.goto (-53), 3) := by decide +kernel
theorem dX1_fewestSilent_66 : decode cX1_fewestSilent 66 = .ok (.iload_n 3, 1) := by decide +kernel
theorem dX1_fewestSilent_67 : decode cX1_fewestSilent 67 = .ok (.ireturn, 1) := by decide +kernel
theorem dX2_init_0 : decode cX2_init 0 = .ok (.aload_n 0, 1) := by decide +kernel
theorem dX2_init_1 : decode cX2_init 1 = .ok (.invokespecial 3, 3) := by decide +kernel
theorem dX2_init_4 : decode cX2_init 4 = .ok (.aload_n 0, 1) := by decide +kernel
theorem dX2_init_5 : decode cX2_init 5 = .ok (.new 9, 3) := by decide +kernel
theorem dX2_init_8 : decode cX2_init 8 = .ok (.dup, 1) := by decide +kernel
theorem dX2_init_9 : decode cX2_init 9 = .ok (.invokespecial 11, 3) := by decide +kernel
theorem dX2_init_12 : decode cX2_init 12 = .ok (.putfield 12, 3) := by decide +kernel
theorem dX2_init_15 : decode cX2_init 15 = .ok (.return_, 1) := by decide +kernel
theorem dX2_follow_0 : decode cX2_follow 0 = .ok (.aload_n 0, 1) := by decide +kernel
theorem dX2_follow_1 : decode cX2_follow 1 = .ok (.getfield 12, 3) := by decide +kernel
theorem dX2_follow_4 : decode cX2_follow 4 = .ok (.aload_n 2, 1) := by decide +kernel
theorem dX2_follow_5 : decode cX2_follow 5 = .ok (.invokevirtual 18, 3) := by decide +kernel
theorem dX2_follow_8 : decode cX2_follow 8 = .ok (.aload_n 0, 1) := by decide +kernel
theorem dX2_follow_9 : decode cX2_follow 9 = .ok (.iconst 0, 1) := by decide +kernel
theorem dX2_follow_10 : decode cX2_follow 10 = .ok (.putfield 22, 3) := by decide +kernel
theorem dX2_follow_13 : decode cX2_follow 13 = .ok (.aload_n 0, 1) := by decide +kernel
theorem dX2_follow_14 : decode cX2_follow 14 = .ok (.iconst 0, 1) := by decide +kernel
theorem dX2_follow_15 : decode cX2_follow 15 = .ok (.putfield 26, 3) := by decide +kernel
theorem dX2_follow_18 : decode cX2_follow 18 = .ok (.aload_n 0, 1) := by decide +kernel
theorem dX2_follow_19 : decode cX2_follow 19 = .ok (.bipush (-6), 2) := by decide +kernel
theorem dX2_follow_21 : decode cX2_follow 21 = .ok (.putfield 29, 3) := by decide +kernel
theorem dX2_follow_24 : decode cX2_follow 24 = .ok (.aload_n 0, 1) := by decide +kernel
theorem dX2_follow_25 : decode cX2_follow 25 = .ok (.bipush (-6), 2) := by decide +kernel
theorem dX2_follow_27 : decode cX2_follow 27 = .ok (.putfield 32, 3) := by decide +kernel
theorem dX2_follow_30 : decode cX2_follow 30 = .ok (.iconst 0, 1) := by decide +kernel
theorem dX2_follow_31 : decode cX2_follow 31 = .ok (.istore_n 3, 1) := by decide +kernel
theorem dX2_follow_32 : decode cX2_follow 32 = .ok (.iload_n 3, 1) := by decide +kernel
theorem dX2_follow_33 : decode cX2_follow 33 = .ok (.aload_n 1, 1) := by decide +kernel
theorem dX2_follow_34 : decode cX2_follow 34 = .ok (.getfield 35, 3) := by decide +kernel
theorem dX2_follow_37 : decode cX2_follow 37 = .ok (.if_icmp .ge 116, 3) := by decide +kernel
theorem dX2_follow_40 : decode cX2_follow 40 = .ok (.iload_n 3, 1) := by decide +kernel
theorem dX2_follow_41 : decode cX2_follow 41 = .ok (.bipush 60, 2) := by decide +kernel
theorem dX2_follow_43 : decode cX2_follow 43 = .ok (.if_icmp .ge 110, 3) := by decide +kernel
theorem dX2_follow_46 : decode cX2_follow 46 = .ok (.aload_n 1, 1) := by decide +kernel
theorem dX2_follow_47 : decode cX2_follow 47 = .ok (.getfield 40, 3) := by decide +kernel
theorem dX2_follow_50 : decode cX2_follow 50 = .ok (.iload_n 3, 1) := by decide +kernel
theorem dX2_follow_51 : decode cX2_follow 51 = .ok (.iaload, 1) := by decide +kernel
theorem dX2_follow_52 : decode cX2_follow 52 = .ok (.istore 4, 2) := by decide +kernel
theorem dX2_follow_54 : decode cX2_follow 54 = .ok (.aload_n 0, 1) := by decide +kernel
theorem dX2_follow_55 : decode cX2_follow 55 = .ok (.aload_n 0, 1) := by decide +kernel
theorem dX2_follow_56 : decode cX2_follow 56 = .ok (.getfield 12, 3) := by decide +kernel
theorem dX2_follow_59 : decode cX2_follow 59 = .ok (.iload 4, 2) := by decide +kernel
theorem dX2_follow_61 : decode cX2_follow 61 = .ok (.invokevirtual 44, 3) := by decide +kernel
theorem dX2_follow_64 : decode cX2_follow 64 = .ok (.putfield 26, 3) := by decide +kernel
theorem dX2_follow_67 : decode cX2_follow 67 = .ok (.aload_n 0, 1) := by decide +kernel
theorem dX2_follow_68 : decode cX2_follow 68 = .ok (.getfield 26, 3) := by decide +kernel
theorem dX2_follow_71 : decode cX2_follow 71 = .ok (.ifCond .eq 4, 3) := by decide +kernel
theorem dX2_follow_74 : decode cX2_follow 74 = .ok (.return_, 1) := by decide +kernel
theorem dX2_follow_75 : decode cX2_follow 75 = .ok (.aload_n 0, 1) := by decide +kernel
theorem dX2_follow_76 : decode cX2_follow 76 = .ok (.getfield 12, 3) := by decide +kernel
theorem dX2_follow_79 : decode cX2_follow 79 = .ok (.invokevirtual 48, 3) := by decide +kernel
theorem dX2_follow_82 : decode cX2_follow 82 = .ok (.istore 5, 2) := by decide +kernel
theorem dX2_follow_84 : decode cX2_follow 84 = .ok (.aload_n 0, 1) := by decide +kernel
theorem dX2_follow_85 : decode cX2_follow 85 = .ok (.getfield 12, 3) := by decide +kernel
theorem dX2_follow_88 : decode cX2_follow 88 = .ok (.iload 4, 2) := by decide +kernel
theorem dX2_follow_90 : decode cX2_follow 90 = .ok (.iload 4, 2) := by decide +kernel
theorem dX2_follow_92 : decode cX2_follow 92 = .ok (.bipush 104, 2) := by decide +kernel
theorem dX2_follow_94 : decode cX2_follow 94 = .ok (.if_icmp .ne 11, 3) := by decide +kernel
theorem dX2_follow_97 : decode cX2_follow 97 = .ok (.aload_n 1, 1) := by decide +kernel
theorem dX2_follow_98 : decode cX2_follow 98 = .ok (.iload_n 3, 1) := by decide +kernel
theorem dX2_follow_99 : decode cX2_follow 99 = .ok (.invokevirtual 52, 3) := by decide +kernel
theorem dX2_follow_102 : decode cX2_follow 102 = .ok (.goto 4, 3) := by decide +kernel
theorem dX2_follow_105 : decode cX2_follow 105 = .ok (.iconst 0, 1) := by decide +kernel
theorem dX2_follow_106 : decode cX2_follow 106 = .ok (.invokevirtual 55, 3) := by decide +kernel
theorem dX2_follow_109 : decode cX2_follow 109 = .ok (.aload_n 0, 1) := by decide +kernel
theorem dX2_follow_110 : decode cX2_follow 110 = .ok (.aload_n 0, 1) := by decide +kernel
theorem dX2_follow_111 : decode cX2_follow 111 = .ok (.getfield 12, 3) := by decide +kernel
theorem dX2_follow_114 : decode cX2_follow 114 = .ok (.invokevirtual 48, 3) := by decide +kernel
theorem dX2_follow_117 : decode cX2_follow 117 = .ok (.iload 5, 2) := by decide +kernel
theorem dX2_follow_119 : decode cX2_follow 119 = .ok (.iconst (-1), 1) := by decide +kernel
theorem dX2_follow_120 : decode cX2_follow 120 = .ok (.ixor, 1) := by decide +kernel
theorem dX2_follow_121 : decode cX2_follow 121 = .ok (.iand, 1) := by decide +kernel
theorem dX2_follow_122 : decode cX2_follow 122 = .ok (.invokevirtual 59, 3) := by decide +kernel
theorem dX2_follow_125 : decode cX2_follow 125 = .ok (.aload_n 0, 1) := by decide +kernel
theorem dX2_follow_126 : decode cX2_follow 126 = .ok (.dup, 1) := by decide +kernel
theorem dX2_follow_127 : decode cX2_follow 127 = .ok (.getfield 22, 3) := by decide +kernel
theorem dX2_follow_130 : decode cX2_follow 130 = .ok (.iconst 1, 1) := by decide +kernel
theorem dX2_follow_131 : decode cX2_follow 131 = .ok (.iadd, 1) := by decide +kernel
theorem dX2_follow_132 : decode cX2_follow 132 = .ok (.putfield 22, 3) := by decide +kernel
theorem dX2_follow_135 : decode cX2_follow 135 = .ok (.iload_n 3, 1) := by decide +kernel
theorem dX2_follow_136 : decode cX2_follow 136 = .ok (.iload 4, 2) := by decide +kernel
theorem dX2_follow_138 : decode cX2_follow 138 = .ok (.bipush 104, 2) := by decide +kernel
theorem dX2_follow_140 : decode cX2_follow 140 = .ok (.if_icmp .ne 7, 3) := by decide +kernel
theorem dX2_follow_143 : decode cX2_follow 143 = .ok (.iconst 2, 1) := by decide +kernel
theorem dX2_follow_144 : decode cX2_follow 144 = .ok (.goto 4, 3) := by decide +kernel
theorem dX2_follow_147 : decode cX2_follow 147 = .ok (.iconst 1, 1) := by decide +kernel
theorem dX2_follow_148 : decode cX2_follow 148 = .ok (.iadd, 1) := by decide +kernel
theorem dX2_follow_149 : decode cX2_follow 149 = .ok (.istore_n 3, 1) := by decide +kernel
theorem dX2_follow_150 : decode cX2_follow 150 = .ok (.goto (-118), 3) := by decide +kernel
theorem dX2_follow_153 : decode cX2_follow 153 = .ok (.return_, 1) := by decide +kernel
theorem dX2_noteFall_0 : decode cX2_noteFall 0 = .ok (.iload_n 1, 1) := by decide +kernel
theorem dX2_noteFall_1 : decode cX2_noteFall 1 = .ok (.ifCond .eq 28, 3) := by decide +kernel
theorem dX2_noteFall_4 : decode cX2_noteFall 4 = .ok (.aload_n 0, 1) := by decide +kernel
theorem dX2_noteFall_5 : decode cX2_noteFall 5 = .ok (.getfield 29, 3) := by decide +kernel
theorem dX2_noteFall_8 : decode cX2_noteFall 8 = .ok (.bipush (-6), 2) := by decide +kernel
theorem dX2_noteFall_10 : decode cX2_noteFall 10 = .ok (.if_icmp .ne 19, 3) := by decide +kernel
theorem dX2_noteFall_13 : decode cX2_noteFall 13 = .ok (.aload_n 0, 1) := by decide +kernel
theorem dX2_noteFall_14 : decode cX2_noteFall 14 = .ok (.aload_n 0, 1) := by decide +kernel
theorem dX2_noteFall_15 : decode cX2_noteFall 15 = .ok (.getfield 22, 3) := by decide +kernel
theorem dX2_noteFall_18 : decode cX2_noteFall 18 = .ok (.putfield 29, 3) := by decide +kernel
theorem dX2_noteFall_21 : decode cX2_noteFall 21 = .ok (.aload_n 0, 1) := by decide +kernel
theorem dX2_noteFall_22 : decode cX2_noteFall 22 = .ok (.iload_n 1, 1) := by decide +kernel
theorem dX2_noteFall_23 : decode cX2_noteFall 23 = .ok (.invokestatic 63, 3) := by decide +kernel
theorem dX2_noteFall_26 : decode cX2_noteFall 26 = .ok (.putfield 32, 3) := by decide +kernel
theorem dX2_noteFall_29 : decode cX2_noteFall 29 = .ok (.return_, 1) := by decide +kernel
theorem dX2_leastOf_0 : decode cX2_leastOf 0 = .ok (.iconst 0, 1) := by decide +kernel
theorem dX2_leastOf_1 : decode cX2_leastOf 1 = .ok (.istore_n 1, 1) := by decide +kernel
theorem dX2_leastOf_2 : decode cX2_leastOf 2 = .ok (.iload_n 1, 1) := by decide +kernel
theorem dX2_leastOf_3 : decode cX2_leastOf 3 = .ok (.bipush 11, 2) := by decide +kernel
theorem dX2_leastOf_5 : decode cX2_leastOf 5 = .ok (.if_icmp .ge 17, 3) := by decide +kernel
theorem dX2_leastOf_8 : decode cX2_leastOf 8 = .ok (.iload_n 0, 1) := by decide +kernel
theorem dX2_leastOf_9 : decode cX2_leastOf 9 = .ok (.iload_n 1, 1) := by decide +kernel
theorem dX2_leastOf_10 : decode cX2_leastOf 10 = .ok (.ishr, 1) := by decide +kernel
theorem dX2_leastOf_11 : decode cX2_leastOf 11 = .ok (.iconst 1, 1) := by decide +kernel
theorem dX2_leastOf_12 : decode cX2_leastOf 12 = .ok (.iand, 1) := by decide +kernel
theorem dX2_leastOf_13 : decode cX2_leastOf 13 = .ok (.ifCond .ne 9, 3) := by decide +kernel
theorem dX2_leastOf_16 : decode cX2_leastOf 16 = .ok (.iinc 1 1, 3) := by decide +kernel
theorem dX2_leastOf_19 : decode cX2_leastOf 19 = .ok (.goto (-17), 3) := by decide +kernel
theorem dX2_leastOf_22 : decode cX2_leastOf 22 = .ok (.iload_n 1, 1) := by decide +kernel
theorem dX2_leastOf_23 : decode cX2_leastOf 23 = .ok (.ireturn, 1) := by decide +kernel
theorem dX3_init_0 : decode cX3_init 0 = .ok (.aload_n 0, 1) := by decide +kernel
theorem dX3_init_1 : decode cX3_init 1 = .ok (.invokespecial 3, 3) := by decide +kernel
theorem dX3_init_4 : decode cX3_init 4 = .ok (.aload_n 0, 1) := by decide +kernel
theorem dX3_init_5 : decode cX3_init 5 = .ok (.bipush 12, 2) := by decide +kernel
theorem dX3_init_7 : decode cX3_init 7 = .ok (.newarray .int, 2) := by decide +kernel
theorem dX3_init_9 : decode cX3_init 9 = .ok (.putfield 9, 3) := by decide +kernel
theorem dX3_init_12 : decode cX3_init 12 = .ok (.aload_n 0, 1) := by decide +kernel
theorem dX3_init_13 : decode cX3_init 13 = .ok (.bipush 12, 2) := by decide +kernel
theorem dX3_init_15 : decode cX3_init 15 = .ok (.newarray .int, 2) := by decide +kernel
theorem dX3_init_17 : decode cX3_init 17 = .ok (.putfield 15, 3) := by decide +kernel
theorem dX3_init_20 : decode cX3_init 20 = .ok (.aload_n 0, 1) := by decide +kernel
theorem dX3_init_21 : decode cX3_init 21 = .ok (.getfield 9, 3) := by decide +kernel
theorem dX3_init_24 : decode cX3_init 24 = .ok (.bipush 10, 2) := by decide +kernel
theorem dX3_init_26 : decode cX3_init 26 = .ok (.invokestatic 18, 3) := by decide +kernel
theorem dX3_init_29 : decode cX3_init 29 = .ok (.return_, 1) := by decide +kernel
theorem dX3_copyFrom_0 : decode cX3_copyFrom 0 = .ok (.aload_n 1, 1) := by decide +kernel
theorem dX3_copyFrom_1 : decode cX3_copyFrom 1 = .ok (.getfield 9, 3) := by decide +kernel
theorem dX3_copyFrom_4 : decode cX3_copyFrom 4 = .ok (.iconst 0, 1) := by decide +kernel
theorem dX3_copyFrom_5 : decode cX3_copyFrom 5 = .ok (.aload_n 0, 1) := by decide +kernel
theorem dX3_copyFrom_6 : decode cX3_copyFrom 6 = .ok (.getfield 9, 3) := by decide +kernel
theorem dX3_copyFrom_9 : decode cX3_copyFrom 9 = .ok (.iconst 0, 1) := by decide +kernel
theorem dX3_copyFrom_10 : decode cX3_copyFrom 10 = .ok (.bipush 12, 2) := by decide +kernel
theorem dX3_copyFrom_12 : decode cX3_copyFrom 12 = .ok (.invokestatic 24, 3) := by decide +kernel
theorem dX3_copyFrom_15 : decode cX3_copyFrom 15 = .ok (.aload_n 1, 1) := by decide +kernel
theorem dX3_copyFrom_16 : decode cX3_copyFrom 16 = .ok (.getfield 15, 3) := by decide +kernel
theorem dX3_copyFrom_19 : decode cX3_copyFrom 19 = .ok (.iconst 0, 1) := by decide +kernel
theorem dX3_copyFrom_20 : decode cX3_copyFrom 20 = .ok (.aload_n 0, 1) := by decide +kernel
theorem dX3_copyFrom_21 : decode cX3_copyFrom 21 = .ok (.getfield 15, 3) := by decide +kernel
theorem dX3_copyFrom_24 : decode cX3_copyFrom 24 = .ok (.iconst 0, 1) := by decide +kernel
theorem dX3_copyFrom_25 : decode cX3_copyFrom 25 = .ok (.bipush 12, 2) := by decide +kernel
theorem dX3_copyFrom_27 : decode cX3_copyFrom 27 = .ok (.invokestatic 24, 3) := by decide +kernel
theorem dX3_copyFrom_30 : decode cX3_copyFrom 30 = .ok (.aload_n 0, 1) := by decide +kernel
theorem dX3_copyFrom_31 : decode cX3_copyFrom 31 = .ok (.aload_n 1, 1) := by decide +kernel
theorem dX3_copyFrom_32 : decode cX3_copyFrom 32 = .ok (.getfield 30, 3) := by decide +kernel
theorem dX3_copyFrom_35 : decode cX3_copyFrom 35 = .ok (.putfield 30, 3) := by decide +kernel
theorem dX3_copyFrom_38 : decode cX3_copyFrom 38 = .ok (.aload_n 0, 1) := by decide +kernel
theorem dX3_copyFrom_39 : decode cX3_copyFrom 39 = .ok (.aload_n 1, 1) := by decide +kernel
theorem dX3_copyFrom_40 : decode cX3_copyFrom 40 = .ok (.getfield 34, 3) := by decide +kernel
theorem dX3_copyFrom_43 : decode cX3_copyFrom 43 = .ok (.putfield 34, 3) := by decide +kernel
theorem dX3_copyFrom_46 : decode cX3_copyFrom 46 = .ok (.aload_n 0, 1) := by decide +kernel
theorem dX3_copyFrom_47 : decode cX3_copyFrom 47 = .ok (.aload_n 1, 1) := by decide +kernel
theorem dX3_copyFrom_48 : decode cX3_copyFrom 48 = .ok (.getfield 37, 3) := by decide +kernel
theorem dX3_copyFrom_51 : decode cX3_copyFrom 51 = .ok (.putfield 37, 3) := by decide +kernel
theorem dX3_copyFrom_54 : decode cX3_copyFrom 54 = .ok (.aload_n 0, 1) := by decide +kernel
theorem dX3_copyFrom_55 : decode cX3_copyFrom 55 = .ok (.aload_n 1, 1) := by decide +kernel
theorem dX3_copyFrom_56 : decode cX3_copyFrom 56 = .ok (.getfield 40, 3) := by decide +kernel
theorem dX3_copyFrom_59 : decode cX3_copyFrom 59 = .ok (.putfield 40, 3) := by decide +kernel
theorem dX3_copyFrom_62 : decode cX3_copyFrom 62 = .ok (.return_, 1) := by decide +kernel
theorem dX3_replaceHeld_0 : decode cX3_replaceHeld 0 = .ok (.aload_n 0, 1) := by decide +kernel
theorem dX3_replaceHeld_1 : decode cX3_replaceHeld 1 = .ok (.getfield 34, 3) := by decide +kernel
theorem dX3_replaceHeld_4 : decode cX3_replaceHeld 4 = .ok (.istore_n 2, 1) := by decide +kernel
theorem dX3_replaceHeld_5 : decode cX3_replaceHeld 5 = .ok (.aload_n 0, 1) := by decide +kernel
theorem dX3_replaceHeld_6 : decode cX3_replaceHeld 6 = .ok (.iload_n 1, 1) := by decide +kernel
theorem dX3_replaceHeld_7 : decode cX3_replaceHeld 7 = .ok (.putfield 34, 3) := by decide +kernel
theorem dX3_replaceHeld_10 : decode cX3_replaceHeld 10 = .ok (.iload_n 2, 1) := by decide +kernel
theorem dX3_replaceHeld_11 : decode cX3_replaceHeld 11 = .ok (.ireturn, 1) := by decide +kernel
theorem dX3_replaceMasons_0 : decode cX3_replaceMasons 0 = .ok (.aload_n 0, 1) := by decide +kernel
theorem dX3_replaceMasons_1 : decode cX3_replaceMasons 1 = .ok (.getfield 37, 3) := by decide +kernel
theorem dX3_replaceMasons_4 : decode cX3_replaceMasons 4 = .ok (.istore_n 2, 1) := by decide +kernel
theorem dX3_replaceMasons_5 : decode cX3_replaceMasons 5 = .ok (.aload_n 0, 1) := by decide +kernel
theorem dX3_replaceMasons_6 : decode cX3_replaceMasons 6 = .ok (.iload_n 1, 1) := by decide +kernel
theorem dX3_replaceMasons_7 : decode cX3_replaceMasons 7 = .ok (.putfield 37, 3) := by decide +kernel
theorem dX3_replaceMasons_10 : decode cX3_replaceMasons 10 = .ok (.iload_n 2, 1) := by decide +kernel
theorem dX3_replaceMasons_11 : decode cX3_replaceMasons 11 = .ok (.ireturn, 1) := by decide +kernel
theorem dX3_replaceRound_0 : decode cX3_replaceRound 0 = .ok (.aload_n 0, 1) := by decide +kernel
theorem dX3_replaceRound_1 : decode cX3_replaceRound 1 = .ok (.getfield 40, 3) := by decide +kernel
theorem dX3_replaceRound_4 : decode cX3_replaceRound 4 = .ok (.istore_n 2, 1) := by decide +kernel
theorem dX3_replaceRound_5 : decode cX3_replaceRound 5 = .ok (.aload_n 0, 1) := by decide +kernel
theorem dX3_replaceRound_6 : decode cX3_replaceRound 6 = .ok (.iload_n 1, 1) := by decide +kernel
theorem dX3_replaceRound_7 : decode cX3_replaceRound 7 = .ok (.putfield 40, 3) := by decide +kernel
theorem dX3_replaceRound_10 : decode cX3_replaceRound 10 = .ok (.iload_n 2, 1) := by decide +kernel
theorem dX3_replaceRound_11 : decode cX3_replaceRound 11 = .ok (.ireturn, 1) := by decide +kernel
theorem dX3_downBits_0 : decode cX3_downBits 0 = .ok (.iconst 0, 1) := by decide +kernel
theorem dX3_downBits_1 : decode cX3_downBits 1 = .ok (.istore_n 1, 1) := by decide +kernel
theorem dX3_downBits_2 : decode cX3_downBits 2 = .ok (.iconst 0, 1) := by decide +kernel
theorem dX3_downBits_3 : decode cX3_downBits 3 = .ok (.istore_n 2, 1) := by decide +kernel
theorem dX3_downBits_4 : decode cX3_downBits 4 = .ok (.iload_n 2, 1) := by decide +kernel
theorem dX3_downBits_5 : decode cX3_downBits 5 = .ok (.bipush 12, 2) := by decide +kernel
theorem dX3_downBits_7 : decode cX3_downBits 7 = .ok (.if_icmp .ge 24, 3) := by decide +kernel
theorem dX3_downBits_10 : decode cX3_downBits 10 = .ok (.aload_n 0, 1) := by decide +kernel
theorem dX3_downBits_11 : decode cX3_downBits 11 = .ok (.getfield 9, 3) := by decide +kernel
theorem dX3_downBits_14 : decode cX3_downBits 14 = .ok (.iload_n 2, 1) := by decide +kernel
theorem dX3_downBits_15 : decode cX3_downBits 15 = .ok (.iaload, 1) := by decide +kernel
theorem dX3_downBits_16 : decode cX3_downBits 16 = .ok (.ifCond .ne 9, 3) := by decide +kernel
theorem dX3_downBits_19 : decode cX3_downBits 19 = .ok (.iload_n 1, 1) := by decide +kernel
theorem dX3_downBits_20 : decode cX3_downBits 20 = .ok (.iconst 1, 1) := by decide +kernel
theorem dX3_downBits_21 : decode cX3_downBits 21 = .ok (.iload_n 2, 1) := by decide +kernel
theorem dX3_downBits_22 : decode cX3_downBits 22 = .ok (.ishl, 1) := by decide +kernel
theorem dX3_downBits_23 : decode cX3_downBits 23 = .ok (.ior, 1) := by decide +kernel
theorem dX3_downBits_24 : decode cX3_downBits 24 = .ok (.istore_n 1, 1) := by decide +kernel
theorem dX3_downBits_25 : decode cX3_downBits 25 = .ok (.iinc 2 1, 3) := by decide +kernel
theorem dX3_downBits_28 : decode cX3_downBits 28 = .ok (.goto (-24), 3) := by decide +kernel
theorem dX3_downBits_31 : decode cX3_downBits 31 = .ok (.iload_n 1, 1) := by decide +kernel
theorem dX3_downBits_32 : decode cX3_downBits 32 = .ok (.ireturn, 1) := by decide +kernel
theorem dX3_isSpared_0 : decode cX3_isSpared 0 = .ok (.aload_n 0, 1) := by decide +kernel
theorem dX3_isSpared_1 : decode cX3_isSpared 1 = .ok (.getfield 9, 3) := by decide +kernel
theorem dX3_isSpared_4 : decode cX3_isSpared 4 = .ok (.iload_n 1, 1) := by decide +kernel
theorem dX3_isSpared_5 : decode cX3_isSpared 5 = .ok (.iaload, 1) := by decide +kernel
theorem dX3_isSpared_6 : decode cX3_isSpared 6 = .ok (.ifCond .le 19, 3) := by decide +kernel
theorem dX3_isSpared_9 : decode cX3_isSpared 9 = .ok (.aload_n 0, 1) := by decide +kernel
theorem dX3_isSpared_10 : decode cX3_isSpared 10 = .ok (.getfield 30, 3) := by decide +kernel
theorem dX3_isSpared_13 : decode cX3_isSpared 13 = .ok (.iload_n 1, 1) := by decide +kernel
theorem dX3_isSpared_14 : decode cX3_isSpared 14 = .ok (.ishr, 1) := by decide +kernel
theorem dX3_isSpared_15 : decode cX3_isSpared 15 = .ok (.iconst 1, 1) := by decide +kernel
theorem dX3_isSpared_16 : decode cX3_isSpared 16 = .ok (.iand, 1) := by decide +kernel
theorem dX3_isSpared_17 : decode cX3_isSpared 17 = .ok (.iconst 1, 1) := by decide +kernel
theorem dX3_isSpared_18 : decode cX3_isSpared 18 = .ok (.if_icmp .ne 7, 3) := by decide +kernel
theorem dX3_isSpared_21 : decode cX3_isSpared 21 = .ok (.iconst 1, 1) := by decide +kernel
theorem dX3_isSpared_22 : decode cX3_isSpared 22 = .ok (.goto 4, 3) := by decide +kernel
theorem dX3_isSpared_25 : decode cX3_isSpared 25 = .ok (.iconst 0, 1) := by decide +kernel
theorem dX3_isSpared_26 : decode cX3_isSpared 26 = .ok (.ireturn, 1) := by decide +kernel
theorem dX3_obstacle_0 : decode cX3_obstacle 0 = .ok (.iload_n 1, 1) := by decide +kernel
theorem dX3_obstacle_1 : decode cX3_obstacle 1 = .ok (.lookupswitch 53 #[(33, 27), (110, 40)], 27) := by decide +kernel
theorem dX3_obstacle_28 : decode cX3_obstacle 28 = .ok (.aload_n 0, 1) := by decide +kernel
theorem dX3_obstacle_29 : decode cX3_obstacle 29 = .ok (.getfield 34, 3) := by decide +kernel
theorem dX3_obstacle_32 : decode cX3_obstacle 32 = .ok (.ifCond .ne 7, 3) := by decide +kernel
theorem dX3_obstacle_35 : decode cX3_obstacle 35 = .ok (.iconst 2, 1) := by decide +kernel
theorem dX3_obstacle_36 : decode cX3_obstacle 36 = .ok (.goto 4, 3) := by decide +kernel
theorem dX3_obstacle_39 : decode cX3_obstacle 39 = .ok (.iconst 0, 1) := by decide +kernel
theorem dX3_obstacle_40 : decode cX3_obstacle 40 = .ok (.ireturn, 1) := by decide +kernel
theorem dX3_obstacle_41 : decode cX3_obstacle 41 = .ok (.aload_n 0, 1) := by decide +kernel
theorem dX3_obstacle_42 : decode cX3_obstacle 42 = .ok (.getfield 37, 3) := by decide +kernel
theorem dX3_obstacle_45 : decode cX3_obstacle 45 = .ok (.ifCond .ne 7, 3) := by decide +kernel
theorem dX3_obstacle_48 : decode cX3_obstacle 48 = .ok (.iconst 3, 1) := by decide +kernel
theorem dX3_obstacle_49 : decode cX3_obstacle 49 = .ok (.goto 4, 3) := by decide +kernel
theorem dX3_obstacle_52 : decode cX3_obstacle 52 = .ok (.iconst 0, 1) := by decide +kernel
theorem dX3_obstacle_53 : decode cX3_obstacle 53 = .ok (.ireturn, 1) := by decide +kernel
theorem dX3_obstacle_54 : decode cX3_obstacle 54 = .ok (.aload_n 0, 1) := by decide +kernel
theorem dX3_obstacle_55 : decode cX3_obstacle 55 = .ok (.getfield 40, 3) := by decide +kernel
theorem dX3_obstacle_58 : decode cX3_obstacle 58 = .ok (.bipush 99, 2) := by decide +kernel
theorem dX3_obstacle_60 : decode cX3_obstacle 60 = .ok (.if_icmp .lt 7, 3) := by decide +kernel
theorem dX3_obstacle_63 : decode cX3_obstacle 63 = .ok (.iconst 1, 1) := by decide +kernel
theorem dX3_obstacle_64 : decode cX3_obstacle 64 = .ok (.goto 4, 3) := by decide +kernel
theorem dX3_obstacle_67 : decode cX3_obstacle 67 = .ok (.iconst 0, 1) := by decide +kernel
theorem dX3_obstacle_68 : decode cX3_obstacle 68 = .ok (.ireturn, 1) := by decide +kernel
theorem dX3_act_0 : decode cX3_act 0 = .ok (.iload_n 1, 1) := by decide +kernel
theorem dX3_act_1 : decode cX3_act 1 = .ok (.lookupswitch 88 #[(33, 81), (46, 35), (104, 63)], 35) := by decide +kernel
theorem dX3_act_36 : decode cX3_act 36 = .ok (.aload_n 0, 1) := by decide +kernel
theorem dX3_act_37 : decode cX3_act 37 = .ok (.bipush 99, 2) := by decide +kernel
theorem dX3_act_39 : decode cX3_act 39 = .ok (.aload_n 0, 1) := by decide +kernel
theorem dX3_act_40 : decode cX3_act 40 = .ok (.getfield 34, 3) := by decide +kernel
theorem dX3_act_43 : decode cX3_act 43 = .ok (.iconst 1, 1) := by decide +kernel
theorem dX3_act_44 : decode cX3_act 44 = .ok (.iadd, 1) := by decide +kernel
theorem dX3_act_45 : decode cX3_act 45 = .ok (.invokestatic 43, 3) := by decide +kernel
theorem dX3_act_48 : decode cX3_act 48 = .ok (.putfield 34, 3) := by decide +kernel
theorem dX3_act_51 : decode cX3_act 51 = .ok (.aload_n 0, 1) := by decide +kernel
theorem dX3_act_52 : decode cX3_act 52 = .ok (.dup, 1) := by decide +kernel
theorem dX3_act_53 : decode cX3_act 53 = .ok (.getfield 40, 3) := by decide +kernel
theorem dX3_act_56 : decode cX3_act 56 = .ok (.iconst 1, 1) := by decide +kernel
theorem dX3_act_57 : decode cX3_act 57 = .ok (.iadd, 1) := by decide +kernel
theorem dX3_act_58 : decode cX3_act 58 = .ok (.putfield 40, 3) := by decide +kernel
theorem dX3_act_61 : decode cX3_act 61 = .ok (.goto 32, 3) := by decide +kernel
theorem dX3_act_64 : decode cX3_act 64 = .ok (.aload_n 0, 1) := by decide +kernel
theorem dX3_act_65 : decode cX3_act 65 = .ok (.iload_n 2, 1) := by decide +kernel
theorem dX3_act_66 : decode cX3_act 66 = .ok (.invokevirtual 49, 3) := by decide +kernel
theorem dX3_act_69 : decode cX3_act 69 = .ok (.aload_n 0, 1) := by decide +kernel
theorem dX3_act_70 : decode cX3_act 70 = .ok (.dup, 1) := by decide +kernel
theorem dX3_act_71 : decode cX3_act 71 = .ok (.getfield 40, 3) := by decide +kernel
theorem dX3_act_74 : decode cX3_act 74 = .ok (.iconst 1, 1) := by decide +kernel
theorem dX3_act_75 : decode cX3_act 75 = .ok (.iadd, 1) := by decide +kernel
theorem dX3_act_76 : decode cX3_act 76 = .ok (.putfield 40, 3) := by decide +kernel
theorem dX3_act_79 : decode cX3_act 79 = .ok (.goto 14, 3) := by decide +kernel
theorem dX3_act_82 : decode cX3_act 82 = .ok (.aload_n 0, 1) := by decide +kernel
theorem dX3_act_83 : decode cX3_act 83 = .ok (.invokevirtual 53, 3) := by decide +kernel
theorem dX3_act_86 : decode cX3_act 86 = .ok (.goto 7, 3) := by decide +kernel
theorem dX3_act_89 : decode cX3_act 89 = .ok (.aload_n 0, 1) := by decide +kernel
theorem dX3_act_90 : decode cX3_act 90 = .ok (.invokevirtual 56, 3) := by decide +kernel
theorem dX3_act_93 : decode cX3_act 93 = .ok (.return_, 1) := by decide +kernel
theorem dX3_blow_0 : decode cX3_blow 0 = .ok (.iconst 0, 1) := by decide +kernel
theorem dX3_blow_1 : decode cX3_blow 1 = .ok (.istore_n 2, 1) := by decide +kernel
theorem dX3_blow_2 : decode cX3_blow 2 = .ok (.iload_n 2, 1) := by decide +kernel
theorem dX3_blow_3 : decode cX3_blow 3 = .ok (.bipush 12, 2) := by decide +kernel
theorem dX3_blow_5 : decode cX3_blow 5 = .ok (.if_icmp .ge 40, 3) := by decide +kernel
theorem dX3_blow_8 : decode cX3_blow 8 = .ok (.aload_n 0, 1) := by decide +kernel
theorem dX3_blow_9 : decode cX3_blow 9 = .ok (.getfield 9, 3) := by decide +kernel
theorem dX3_blow_12 : decode cX3_blow 12 = .ok (.iload_n 2, 1) := by decide +kernel
theorem dX3_blow_13 : decode cX3_blow 13 = .ok (.aload_n 0, 1) := by decide +kernel
theorem dX3_blow_14 : decode cX3_blow 14 = .ok (.iload_n 2, 1) := by decide +kernel
theorem dX3_blow_15 : decode cX3_blow 15 = .ok (.invokevirtual 59, 3) := by decide +kernel
theorem dX3_blow_18 : decode cX3_blow 18 = .ok (.aload_n 0, 1) := by decide +kernel
theorem dX3_blow_19 : decode cX3_blow 19 = .ok (.getfield 9, 3) := by decide +kernel
theorem dX3_blow_22 : decode cX3_blow 22 = .ok (.iload_n 2, 1) := by decide +kernel
theorem dX3_blow_23 : decode cX3_blow 23 = .ok (.iaload, 1) := by decide +kernel
theorem dX3_blow_24 : decode cX3_blow 24 = .ok (.iload_n 1, 1) := by decide +kernel
theorem dX3_blow_25 : decode cX3_blow 25 = .ok (.aload_n 0, 1) := by decide +kernel
theorem dX3_blow_26 : decode cX3_blow 26 = .ok (.getfield 15, 3) := by decide +kernel
theorem dX3_blow_29 : decode cX3_blow 29 = .ok (.iload_n 2, 1) := by decide +kernel
theorem dX3_blow_30 : decode cX3_blow 30 = .ok (.iaload, 1) := by decide +kernel
theorem dX3_blow_31 : decode cX3_blow 31 = .ok (.invokestatic 63, 3) := by decide +kernel
theorem dX3_blow_34 : decode cX3_blow 34 = .ok (.isub, 1) := by decide +kernel
theorem dX3_blow_35 : decode cX3_blow 35 = .ok (.invokestatic 66, 3) := by decide +kernel
theorem dX3_blow_38 : decode cX3_blow 38 = .ok (.iastore, 1) := by decide +kernel
theorem dX3_blow_39 : decode cX3_blow 39 = .ok (.iinc 2 1, 3) := by decide +kernel
theorem dX3_blow_42 : decode cX3_blow 42 = .ok (.goto (-40), 3) := by decide +kernel
theorem dX3_blow_45 : decode cX3_blow 45 = .ok (.return_, 1) := by decide +kernel
theorem dX3_letOut_0 : decode cX3_letOut 0 = .ok (.iconst 0, 1) := by decide +kernel
theorem dX3_letOut_1 : decode cX3_letOut 1 = .ok (.istore_n 1, 1) := by decide +kernel
theorem dX3_letOut_2 : decode cX3_letOut 2 = .ok (.iload_n 1, 1) := by decide +kernel
theorem dX3_letOut_3 : decode cX3_letOut 3 = .ok (.bipush 12, 2) := by decide +kernel
theorem dX3_letOut_5 : decode cX3_letOut 5 = .ok (.if_icmp .ge 34, 3) := by decide +kernel
theorem dX3_letOut_8 : decode cX3_letOut 8 = .ok (.aload_n 0, 1) := by decide +kernel
theorem dX3_letOut_9 : decode cX3_letOut 9 = .ok (.getfield 9, 3) := by decide +kernel
theorem dX3_letOut_12 : decode cX3_letOut 12 = .ok (.iload_n 1, 1) := by decide +kernel
theorem dX3_letOut_13 : decode cX3_letOut 13 = .ok (.aload_n 0, 1) := by decide +kernel
theorem dX3_letOut_14 : decode cX3_letOut 14 = .ok (.iload_n 1, 1) := by decide +kernel
theorem dX3_letOut_15 : decode cX3_letOut 15 = .ok (.invokevirtual 59, 3) := by decide +kernel
theorem dX3_letOut_18 : decode cX3_letOut 18 = .ok (.aload_n 0, 1) := by decide +kernel
theorem dX3_letOut_19 : decode cX3_letOut 19 = .ok (.getfield 9, 3) := by decide +kernel
theorem dX3_letOut_22 : decode cX3_letOut 22 = .ok (.iload_n 1, 1) := by decide +kernel
theorem dX3_letOut_23 : decode cX3_letOut 23 = .ok (.iaload, 1) := by decide +kernel
theorem dX3_letOut_24 : decode cX3_letOut 24 = .ok (.aload_n 0, 1) := by decide +kernel
theorem dX3_letOut_25 : decode cX3_letOut 25 = .ok (.getfield 34, 3) := by decide +kernel
theorem dX3_letOut_28 : decode cX3_letOut 28 = .ok (.isub, 1) := by decide +kernel
theorem dX3_letOut_29 : decode cX3_letOut 29 = .ok (.invokestatic 66, 3) := by decide +kernel
theorem dX3_letOut_32 : decode cX3_letOut 32 = .ok (.iastore, 1) := by decide +kernel
theorem dX3_letOut_33 : decode cX3_letOut 33 = .ok (.iinc 1 1, 3) := by decide +kernel
theorem dX3_letOut_36 : decode cX3_letOut 36 = .ok (.goto (-34), 3) := by decide +kernel
theorem dX3_letOut_39 : decode cX3_letOut 39 = .ok (.aload_n 0, 1) := by decide +kernel
theorem dX3_letOut_40 : decode cX3_letOut 40 = .ok (.iconst 0, 1) := by decide +kernel
theorem dX3_letOut_41 : decode cX3_letOut 41 = .ok (.putfield 34, 3) := by decide +kernel
theorem dX3_letOut_44 : decode cX3_letOut 44 = .ok (.return_, 1) := by decide +kernel
theorem dX3_leastLeft_0 : decode cX3_leastLeft 0 = .ok (.aload_n 0, 1) := by decide +kernel
theorem dX3_leastLeft_1 : decode cX3_leastLeft 1 = .ok (.iload_n 1, 1) := by decide +kernel
theorem dX3_leastLeft_2 : decode cX3_leastLeft 2 = .ok (.invokevirtual 69, 3) := by decide +kernel
theorem dX3_leastLeft_5 : decode cX3_leastLeft 5 = .ok (.ifCond .eq 7, 3) := by decide +kernel
theorem dX3_leastLeft_8 : decode cX3_leastLeft 8 = .ok (.iconst 1, 1) := by decide +kernel
theorem dX3_leastLeft_9 : decode cX3_leastLeft 9 = .ok (.goto 4, 3) := by decide +kernel
theorem dX3_leastLeft_12 : decode cX3_leastLeft 12 = .ok (.iconst 0, 1) := by decide +kernel
theorem dX3_leastLeft_13 : decode cX3_leastLeft 13 = .ok (.ireturn, 1) := by decide +kernel
theorem dX3_mend_0 : decode cX3_mend 0 = .ok (.iconst 0, 1) := by decide +kernel
theorem dX3_mend_1 : decode cX3_mend 1 = .ok (.istore_n 1, 1) := by decide +kernel
theorem dX3_mend_2 : decode cX3_mend 2 = .ok (.iconst 0, 1) := by decide +kernel
theorem dX3_mend_3 : decode cX3_mend 3 = .ok (.istore_n 2, 1) := by decide +kernel
theorem dX3_mend_4 : decode cX3_mend 4 = .ok (.iload_n 2, 1) := by decide +kernel
theorem dX3_mend_5 : decode cX3_mend 5 = .ok (.aload_n 0, 1) := by decide +kernel
theorem dX3_mend_6 : decode cX3_mend 6 = .ok (.getfield 37, 3) := by decide +kernel
theorem dX3_mend_9 : decode cX3_mend 9 = .ok (.if_icmp .ge 17, 3) := by decide +kernel
theorem dX3_mend_12 : decode cX3_mend 12 = .ok (.iload_n 1, 1) := by decide +kernel
theorem dX3_mend_13 : decode cX3_mend 13 = .ok (.aload_n 0, 1) := by decide +kernel
theorem dX3_mend_14 : decode cX3_mend 14 = .ok (.iload_n 1, 1) := by decide +kernel
theorem dX3_mend_15 : decode cX3_mend 15 = .ok (.invokevirtual 73, 3) := by decide +kernel
theorem dX3_mend_18 : decode cX3_mend 18 = .ok (.ior, 1) := by decide +kernel
theorem dX3_mend_19 : decode cX3_mend 19 = .ok (.istore_n 1, 1) := by decide +kernel
theorem dX3_mend_20 : decode cX3_mend 20 = .ok (.iinc 2 1, 3) := by decide +kernel
theorem dX3_mend_23 : decode cX3_mend 23 = .ok (.goto (-19), 3) := by decide +kernel
theorem dX3_mend_26 : decode cX3_mend 26 = .ok (.iconst 0, 1) := by decide +kernel
theorem dX3_mend_27 : decode cX3_mend 27 = .ok (.istore_n 2, 1) := by decide +kernel
theorem dX3_mend_28 : decode cX3_mend 28 = .ok (.iload_n 2, 1) := by decide +kernel
theorem dX3_mend_29 : decode cX3_mend 29 = .ok (.bipush 12, 2) := by decide +kernel
theorem dX3_mend_31 : decode cX3_mend 31 = .ok (.if_icmp .ge 23, 3) := by decide +kernel
theorem dX3_mend_34 : decode cX3_mend 34 = .ok (.aload_n 0, 1) := by decide +kernel
theorem dX3_mend_35 : decode cX3_mend 35 = .ok (.getfield 9, 3) := by decide +kernel
theorem dX3_mend_38 : decode cX3_mend 38 = .ok (.iload_n 2, 1) := by decide +kernel
theorem dX3_mend_39 : decode cX3_mend 39 = .ok (.dup2, 1) := by decide +kernel
theorem dX3_mend_40 : decode cX3_mend 40 = .ok (.iaload, 1) := by decide +kernel
theorem dX3_mend_41 : decode cX3_mend 41 = .ok (.iload_n 1, 1) := by decide +kernel
theorem dX3_mend_42 : decode cX3_mend 42 = .ok (.iload_n 2, 1) := by decide +kernel
theorem dX3_mend_43 : decode cX3_mend 43 = .ok (.ishr, 1) := by decide +kernel
theorem dX3_mend_44 : decode cX3_mend 44 = .ok (.iconst 1, 1) := by decide +kernel
theorem dX3_mend_45 : decode cX3_mend 45 = .ok (.iand, 1) := by decide +kernel
theorem dX3_mend_46 : decode cX3_mend 46 = .ok (.iadd, 1) := by decide +kernel
theorem dX3_mend_47 : decode cX3_mend 47 = .ok (.iastore, 1) := by decide +kernel
theorem dX3_mend_48 : decode cX3_mend 48 = .ok (.iinc 2 1, 3) := by decide +kernel
theorem dX3_mend_51 : decode cX3_mend 51 = .ok (.goto (-23), 3) := by decide +kernel
theorem dX3_mend_54 : decode cX3_mend 54 = .ok (.return_, 1) := by decide +kernel
theorem dX3_leastFirmBeside_0 : decode cX3_leastFirmBeside 0 = .ok (.iconst 0, 1) := by decide +kernel
theorem dX3_leastFirmBeside_1 : decode cX3_leastFirmBeside 1 = .ok (.istore_n 2, 1) := by decide +kernel
theorem dX3_leastFirmBeside_2 : decode cX3_leastFirmBeside 2 = .ok (.bipush 99, 2) := by decide +kernel
theorem dX3_leastFirmBeside_4 : decode cX3_leastFirmBeside 4 = .ok (.istore_n 3, 1) := by decide +kernel
theorem dX3_leastFirmBeside_5 : decode cX3_leastFirmBeside 5 = .ok (.iconst 0, 1) := by decide +kernel
theorem dX3_leastFirmBeside_6 : decode cX3_leastFirmBeside 6 = .ok (.istore 4, 2) := by decide +kernel
theorem dX3_leastFirmBeside_8 : decode cX3_leastFirmBeside 8 = .ok (.iload 4, 2) := by decide +kernel
theorem dX3_leastFirmBeside_10 : decode cX3_leastFirmBeside 10 = .ok (.bipush 12, 2) := by decide +kernel
theorem dX3_leastFirmBeside_12 : decode cX3_leastFirmBeside 12 = .ok (.if_icmp .ge 52, 3) := by decide +kernel
theorem dX3_leastFirmBeside_15 : decode cX3_leastFirmBeside 15 = .ok (.aload_n 0, 1) := by decide +kernel
theorem dX3_leastFirmBeside_16 : decode cX3_leastFirmBeside 16 = .ok (.getfield 9, 3) := by decide +kernel
theorem dX3_leastFirmBeside_19 : decode cX3_leastFirmBeside 19 = .ok (.iload 4, 2) := by decide +kernel
theorem dX3_leastFirmBeside_21 : decode cX3_leastFirmBeside 21 = .ok (.iaload, 1) := by decide +kernel
theorem dX3_leastFirmBeside_22 : decode cX3_leastFirmBeside 22 = .ok (.ifCond .le 36, 3) := by decide +kernel
theorem dX3_leastFirmBeside_25 : decode cX3_leastFirmBeside 25 = .ok (.aload_n 0, 1) := by decide +kernel
theorem dX3_leastFirmBeside_26 : decode cX3_leastFirmBeside 26 = .ok (.getfield 9, 3) := by decide +kernel
theorem dX3_leastFirmBeside_29 : decode cX3_leastFirmBeside 29 = .ok (.iload 4, 2) := by decide +kernel
theorem dX3_leastFirmBeside_31 : decode cX3_leastFirmBeside 31 = .ok (.iaload, 1) := by decide +kernel
theorem dX3_leastFirmBeside_32 : decode cX3_leastFirmBeside 32 = .ok (.iload_n 3, 1) := by decide +kernel
theorem dX3_leastFirmBeside_33 : decode cX3_leastFirmBeside 33 = .ok (.if_icmp .ge 25, 3) := by decide +kernel
theorem dX3_leastFirmBeside_36 : decode cX3_leastFirmBeside 36 = .ok (.iload_n 1, 1) := by decide +kernel
theorem dX3_leastFirmBeside_37 : decode cX3_leastFirmBeside 37 = .ok (.iload 4, 2) := by decide +kernel
theorem dX3_leastFirmBeside_39 : decode cX3_leastFirmBeside 39 = .ok (.ishr, 1) := by decide +kernel
theorem dX3_leastFirmBeside_40 : decode cX3_leastFirmBeside 40 = .ok (.iconst 1, 1) := by decide +kernel
theorem dX3_leastFirmBeside_41 : decode cX3_leastFirmBeside 41 = .ok (.iand, 1) := by decide +kernel
theorem dX3_leastFirmBeside_42 : decode cX3_leastFirmBeside 42 = .ok (.ifCond .ne 16, 3) := by decide +kernel
theorem dX3_leastFirmBeside_45 : decode cX3_leastFirmBeside 45 = .ok (.iconst 1, 1) := by decide +kernel
theorem dX3_leastFirmBeside_46 : decode cX3_leastFirmBeside 46 = .ok (.iload 4, 2) := by decide +kernel
theorem dX3_leastFirmBeside_48 : decode cX3_leastFirmBeside 48 = .ok (.ishl, 1) := by decide +kernel
theorem dX3_leastFirmBeside_49 : decode cX3_leastFirmBeside 49 = .ok (.istore_n 2, 1) := by decide +kernel
theorem dX3_leastFirmBeside_50 : decode cX3_leastFirmBeside 50 = .ok (.aload_n 0, 1) := by decide +kernel
theorem dX3_leastFirmBeside_51 : decode cX3_leastFirmBeside 51 = .ok (.getfield 9, 3) := by decide +kernel
theorem dX3_leastFirmBeside_54 : decode cX3_leastFirmBeside 54 = .ok (.iload 4, 2) := by decide +kernel
theorem dX3_leastFirmBeside_56 : decode cX3_leastFirmBeside 56 = .ok (.iaload, 1) := by decide +kernel
theorem dX3_leastFirmBeside_57 : decode cX3_leastFirmBeside 57 = .ok (.istore_n 3, 1) := by decide +kernel
theorem dX3_leastFirmBeside_58 : decode cX3_leastFirmBeside 58 = .ok (.iinc 4 1, 3) := by decide +kernel
theorem dX3_leastFirmBeside_61 : decode cX3_leastFirmBeside 61 = .ok (.goto (-53), 3) := by decide +kernel
theorem dX3_leastFirmBeside_64 : decode cX3_leastFirmBeside 64 = .ok (.iload_n 2, 1) := by decide +kernel
theorem dX3_leastFirmBeside_65 : decode cX3_leastFirmBeside 65 = .ok (.ireturn, 1) := by decide +kernel
theorem dX3_live_0 : decode cX3_live 0 = .ok (.iload_n 1, 1) := by decide +kernel
theorem dX3_live_1 : decode cX3_live 1 = .ok (.istore_n 3, 1) := by decide +kernel
theorem dX3_live_2 : decode cX3_live 2 = .ok (.iconst 0, 1) := by decide +kernel
theorem dX3_live_3 : decode cX3_live 3 = .ok (.istore 4, 2) := by decide +kernel
theorem dX3_live_5 : decode cX3_live 5 = .ok (.iload 4, 2) := by decide +kernel
theorem dX3_live_7 : decode cX3_live 7 = .ok (.iload_n 2, 1) := by decide +kernel
theorem dX3_live_8 : decode cX3_live 8 = .ok (.if_icmp .ge 51, 3) := by decide +kernel
theorem dX3_live_11 : decode cX3_live 11 = .ok (.bipush 75, 2) := by decide +kernel
theorem dX3_live_13 : decode cX3_live 13 = .ok (.iload_n 3, 1) := by decide +kernel
theorem dX3_live_14 : decode cX3_live 14 = .ok (.imul, 1) := by decide +kernel
theorem dX3_live_15 : decode cX3_live 15 = .ok (.bipush 74, 2) := by decide +kernel
theorem dX3_live_17 : decode cX3_live 17 = .ok (.iadd, 1) := by decide +kernel
theorem dX3_live_18 : decode cX3_live 18 = .ok (.ldc 76, 2) := by decide +kernel
theorem dX3_live_20 : decode cX3_live 20 = .ok (.irem, 1) := by decide +kernel
theorem dX3_live_21 : decode cX3_live 21 = .ok (.istore_n 3, 1) := by decide +kernel
theorem dX3_live_22 : decode cX3_live 22 = .ok (.iload_n 3, 1) := by decide +kernel
theorem dX3_live_23 : decode cX3_live 23 = .ok (.bipush 8, 2) := by decide +kernel
theorem dX3_live_25 : decode cX3_live 25 = .ok (.irem, 1) := by decide +kernel
theorem dX3_live_26 : decode cX3_live 26 = .ok (.invokestatic 77, 3) := by decide +kernel
theorem dX3_live_29 : decode cX3_live 29 = .ok (.istore 5, 2) := by decide +kernel
theorem dX3_live_31 : decode cX3_live 31 = .ok (.aload_n 0, 1) := by decide +kernel
theorem dX3_live_32 : decode cX3_live 32 = .ok (.iload 5, 2) := by decide +kernel
theorem dX3_live_34 : decode cX3_live 34 = .ok (.invokevirtual 80, 3) := by decide +kernel
theorem dX3_live_37 : decode cX3_live 37 = .ok (.ifCond .ne 16, 3) := by decide +kernel
theorem dX3_live_40 : decode cX3_live 40 = .ok (.aload_n 0, 1) := by decide +kernel
theorem dX3_live_41 : decode cX3_live 41 = .ok (.iload 5, 2) := by decide +kernel
theorem dX3_live_43 : decode cX3_live 43 = .ok (.iload_n 3, 1) := by decide +kernel
theorem dX3_live_44 : decode cX3_live 44 = .ok (.bipush 8, 2) := by decide +kernel
theorem dX3_live_46 : decode cX3_live 46 = .ok (.idiv, 1) := by decide +kernel
theorem dX3_live_47 : decode cX3_live 47 = .ok (.bipush 10, 2) := by decide +kernel
theorem dX3_live_49 : decode cX3_live 49 = .ok (.irem, 1) := by decide +kernel
theorem dX3_live_50 : decode cX3_live 50 = .ok (.invokevirtual 83, 3) := by decide +kernel
theorem dX3_live_53 : decode cX3_live 53 = .ok (.iinc 4 1, 3) := by decide +kernel
theorem dX3_live_56 : decode cX3_live 56 = .ok (.goto (-51), 3) := by decide +kernel
theorem dX3_live_59 : decode cX3_live 59 = .ok (.return_, 1) := by decide +kernel
theorem dX3_drawnSign_0 : decode cX3_drawnSign 0 = .ok (.iload_n 0, 1) := by decide +kernel
theorem dX3_drawnSign_1 : decode cX3_drawnSign 1 = .ok (.tableswitch 40 4 7 #[31, 31, 34, 37], 31) := by decide +kernel
theorem dX3_drawnSign_32 : decode cX3_drawnSign 32 = .ok (.bipush 104, 2) := by decide +kernel
theorem dX3_drawnSign_34 : decode cX3_drawnSign 34 = .ok (.ireturn, 1) := by decide +kernel
theorem dX3_drawnSign_35 : decode cX3_drawnSign 35 = .ok (.bipush 33, 2) := by decide +kernel
theorem dX3_drawnSign_37 : decode cX3_drawnSign 37 = .ok (.ireturn, 1) := by decide +kernel
theorem dX3_drawnSign_38 : decode cX3_drawnSign 38 = .ok (.bipush 110, 2) := by decide +kernel
theorem dX3_drawnSign_40 : decode cX3_drawnSign 40 = .ok (.ireturn, 1) := by decide +kernel
theorem dX3_drawnSign_41 : decode cX3_drawnSign 41 = .ok (.bipush 46, 2) := by decide +kernel
theorem dX3_drawnSign_43 : decode cX3_drawnSign 43 = .ok (.ireturn, 1) := by decide +kernel
theorem dX3_silentRoundsFor_0 : decode cX3_silentRoundsFor 0 = .ok (.bipush (-6), 2) := by decide +kernel
theorem dX3_silentRoundsFor_2 : decode cX3_silentRoundsFor 2 = .ok (.istore_n 2, 1) := by decide +kernel
theorem dX3_silentRoundsFor_3 : decode cX3_silentRoundsFor 3 = .ok (.iconst 0, 1) := by decide +kernel
theorem dX3_silentRoundsFor_4 : decode cX3_silentRoundsFor 4 = .ok (.istore_n 3, 1) := by decide +kernel
theorem dX3_silentRoundsFor_5 : decode cX3_silentRoundsFor 5 = .ok (.iload_n 3, 1) := by decide +kernel
theorem dX3_silentRoundsFor_6 : decode cX3_silentRoundsFor 6 = .ok (.bipush 12, 2) := by decide +kernel
theorem dX3_silentRoundsFor_8 : decode cX3_silentRoundsFor 8 = .ok (.if_icmp .ge 52, 3) := by decide +kernel
theorem dX3_silentRoundsFor_11 : decode cX3_silentRoundsFor 11 = .ok (.aload_n 0, 1) := by decide +kernel
theorem dX3_silentRoundsFor_12 : decode cX3_silentRoundsFor 12 = .ok (.iload_n 3, 1) := by decide +kernel
theorem dX3_silentRoundsFor_13 : decode cX3_silentRoundsFor 13 = .ok (.iload_n 1, 1) := by decide +kernel
theorem dX3_silentRoundsFor_14 : decode cX3_silentRoundsFor 14 = .ok (.invokevirtual 87, 3) := by decide +kernel
theorem dX3_silentRoundsFor_17 : decode cX3_silentRoundsFor 17 = .ok (.istore 4, 2) := by decide +kernel
theorem dX3_silentRoundsFor_19 : decode cX3_silentRoundsFor 19 = .ok (.iconst 0, 1) := by decide +kernel
theorem dX3_silentRoundsFor_20 : decode cX3_silentRoundsFor 20 = .ok (.iload 4, 2) := by decide +kernel
theorem dX3_silentRoundsFor_22 : decode cX3_silentRoundsFor 22 = .ok (.aload_n 0, 1) := by decide +kernel
theorem dX3_silentRoundsFor_23 : decode cX3_silentRoundsFor 23 = .ok (.getfield 34, 3) := by decide +kernel
theorem dX3_silentRoundsFor_26 : decode cX3_silentRoundsFor 26 = .ok (.isub, 1) := by decide +kernel
theorem dX3_silentRoundsFor_27 : decode cX3_silentRoundsFor 27 = .ok (.invokestatic 66, 3) := by decide +kernel
theorem dX3_silentRoundsFor_30 : decode cX3_silentRoundsFor 30 = .ok (.istore 5, 2) := by decide +kernel
theorem dX3_silentRoundsFor_32 : decode cX3_silentRoundsFor 32 = .ok (.iload 4, 2) := by decide +kernel
theorem dX3_silentRoundsFor_34 : decode cX3_silentRoundsFor 34 = .ok (.bipush (-6), 2) := by decide +kernel
theorem dX3_silentRoundsFor_36 : decode cX3_silentRoundsFor 36 = .ok (.if_icmp .eq 18, 3) := by decide +kernel
theorem dX3_silentRoundsFor_39 : decode cX3_silentRoundsFor 39 = .ok (.iload_n 2, 1) := by decide +kernel
theorem dX3_silentRoundsFor_40 : decode cX3_silentRoundsFor 40 = .ok (.bipush (-6), 2) := by decide +kernel
theorem dX3_silentRoundsFor_42 : decode cX3_silentRoundsFor 42 = .ok (.if_icmp .eq 9, 3) := by decide +kernel
theorem dX3_silentRoundsFor_45 : decode cX3_silentRoundsFor 45 = .ok (.iload 5, 2) := by decide +kernel
theorem dX3_silentRoundsFor_47 : decode cX3_silentRoundsFor 47 = .ok (.iload_n 2, 1) := by decide +kernel
theorem dX3_silentRoundsFor_48 : decode cX3_silentRoundsFor 48 = .ok (.if_icmp .ge 6, 3) := by decide +kernel
theorem dX3_silentRoundsFor_51 : decode cX3_silentRoundsFor 51 = .ok (.iload 5, 2) := by decide +kernel
theorem dX3_silentRoundsFor_53 : decode cX3_silentRoundsFor 53 = .ok (.istore_n 2, 1) := by decide +kernel
theorem dX3_silentRoundsFor_54 : decode cX3_silentRoundsFor 54 = .ok (.iinc 3 1, 3) := by decide +kernel
theorem dX3_silentRoundsFor_57 : decode cX3_silentRoundsFor 57 = .ok (.goto (-52), 3) := by decide +kernel
theorem dX3_silentRoundsFor_60 : decode cX3_silentRoundsFor 60 = .ok (.iload_n 2, 1) := by decide +kernel
theorem dX3_silentRoundsFor_61 : decode cX3_silentRoundsFor 61 = .ok (.ireturn, 1) := by decide +kernel
theorem dX3_noiseFor_0 : decode cX3_noiseFor 0 = .ok (.iconst 0, 1) := by decide +kernel
theorem dX3_noiseFor_1 : decode cX3_noiseFor 1 = .ok (.istore_n 3, 1) := by decide +kernel
theorem dX3_noiseFor_2 : decode cX3_noiseFor 2 = .ok (.iconst 0, 1) := by decide +kernel
theorem dX3_noiseFor_3 : decode cX3_noiseFor 3 = .ok (.istore 4, 2) := by decide +kernel
theorem dX3_noiseFor_5 : decode cX3_noiseFor 5 = .ok (.iload 4, 2) := by decide +kernel
theorem dX3_noiseFor_7 : decode cX3_noiseFor 7 = .ok (.iload_n 2, 1) := by decide +kernel
theorem dX3_noiseFor_8 : decode cX3_noiseFor 8 = .ok (.if_icmp .ge 42, 3) := by decide +kernel
theorem dX3_noiseFor_11 : decode cX3_noiseFor 11 = .ok (.iload_n 1, 1) := by decide +kernel
theorem dX3_noiseFor_12 : decode cX3_noiseFor 12 = .ok (.iload 4, 2) := by decide +kernel
theorem dX3_noiseFor_14 : decode cX3_noiseFor 14 = .ok (.iadd, 1) := by decide +kernel
theorem dX3_noiseFor_15 : decode cX3_noiseFor 15 = .ok (.bipush 12, 2) := by decide +kernel
theorem dX3_noiseFor_17 : decode cX3_noiseFor 17 = .ok (.irem, 1) := by decide +kernel
theorem dX3_noiseFor_18 : decode cX3_noiseFor 18 = .ok (.istore 5, 2) := by decide +kernel
theorem dX3_noiseFor_20 : decode cX3_noiseFor 20 = .ok (.aload_n 0, 1) := by decide +kernel
theorem dX3_noiseFor_21 : decode cX3_noiseFor 21 = .ok (.iload 5, 2) := by decide +kernel
theorem dX3_noiseFor_23 : decode cX3_noiseFor 23 = .ok (.invokevirtual 69, 3) := by decide +kernel
theorem dX3_noiseFor_26 : decode cX3_noiseFor 26 = .ok (.ifCond .eq 6, 3) := by decide +kernel
theorem dX3_noiseFor_29 : decode cX3_noiseFor 29 = .ok (.bipush (-6), 2) := by decide +kernel
theorem dX3_noiseFor_31 : decode cX3_noiseFor 31 = .ok (.ireturn, 1) := by decide +kernel
theorem dX3_noiseFor_32 : decode cX3_noiseFor 32 = .ok (.iload_n 3, 1) := by decide +kernel
theorem dX3_noiseFor_33 : decode cX3_noiseFor 33 = .ok (.aload_n 0, 1) := by decide +kernel
theorem dX3_noiseFor_34 : decode cX3_noiseFor 34 = .ok (.getfield 9, 3) := by decide +kernel
theorem dX3_noiseFor_37 : decode cX3_noiseFor 37 = .ok (.iload 5, 2) := by decide +kernel
theorem dX3_noiseFor_39 : decode cX3_noiseFor 39 = .ok (.iaload, 1) := by decide +kernel
theorem dX3_noiseFor_40 : decode cX3_noiseFor 40 = .ok (.invokestatic 66, 3) := by decide +kernel
theorem dX3_noiseFor_43 : decode cX3_noiseFor 43 = .ok (.istore_n 3, 1) := by decide +kernel
theorem dX3_noiseFor_44 : decode cX3_noiseFor 44 = .ok (.iinc 4 1, 3) := by decide +kernel
theorem dX3_noiseFor_47 : decode cX3_noiseFor 47 = .ok (.goto (-42), 3) := by decide +kernel
theorem dX3_noiseFor_50 : decode cX3_noiseFor 50 = .ok (.iload_n 3, 1) := by decide +kernel
theorem dX3_noiseFor_51 : decode cX3_noiseFor 51 = .ok (.ireturn, 1) := by decide +kernel
theorem dX3_bestHorns_0 : decode cX3_bestHorns 0 = .ok (.iconst 0, 1) := by decide +kernel
theorem dX3_bestHorns_1 : decode cX3_bestHorns 1 = .ok (.istore_n 2, 1) := by decide +kernel
theorem dX3_bestHorns_2 : decode cX3_bestHorns 2 = .ok (.aload_n 0, 1) := by decide +kernel
theorem dX3_bestHorns_3 : decode cX3_bestHorns 3 = .ok (.iconst 0, 1) := by decide +kernel
theorem dX3_bestHorns_4 : decode cX3_bestHorns 4 = .ok (.iload_n 1, 1) := by decide +kernel
theorem dX3_bestHorns_5 : decode cX3_bestHorns 5 = .ok (.invokevirtual 90, 3) := by decide +kernel
theorem dX3_bestHorns_8 : decode cX3_bestHorns 8 = .ok (.istore_n 3, 1) := by decide +kernel
theorem dX3_bestHorns_9 : decode cX3_bestHorns 9 = .ok (.iload_n 1, 1) := by decide +kernel
theorem dX3_bestHorns_10 : decode cX3_bestHorns 10 = .ok (.invokestatic 93, 3) := by decide +kernel
theorem dX3_bestHorns_13 : decode cX3_bestHorns 13 = .ok (.istore 4, 2) := by decide +kernel
theorem dX3_bestHorns_15 : decode cX3_bestHorns 15 = .ok (.iconst 1, 1) := by decide +kernel
theorem dX3_bestHorns_16 : decode cX3_bestHorns 16 = .ok (.istore 5, 2) := by decide +kernel
theorem dX3_bestHorns_18 : decode cX3_bestHorns 18 = .ok (.iload 5, 2) := by decide +kernel
theorem dX3_bestHorns_20 : decode cX3_bestHorns 20 = .ok (.iload 4, 2) := by decide +kernel
theorem dX3_bestHorns_22 : decode cX3_bestHorns 22 = .ok (.if_icmp .ge 38, 3) := by decide +kernel
theorem dX3_bestHorns_25 : decode cX3_bestHorns 25 = .ok (.iload 5, 2) := by decide +kernel
theorem dX3_bestHorns_27 : decode cX3_bestHorns 27 = .ok (.invokestatic 96, 3) := by decide +kernel
theorem dX3_bestHorns_30 : decode cX3_bestHorns 30 = .ok (.ifCond .eq 24, 3) := by decide +kernel
theorem dX3_bestHorns_33 : decode cX3_bestHorns 33 = .ok (.aload_n 0, 1) := by decide +kernel
theorem dX3_bestHorns_34 : decode cX3_bestHorns 34 = .ok (.iload 5, 2) := by decide +kernel
theorem dX3_bestHorns_36 : decode cX3_bestHorns 36 = .ok (.iload_n 1, 1) := by decide +kernel
theorem dX3_bestHorns_37 : decode cX3_bestHorns 37 = .ok (.invokevirtual 90, 3) := by decide +kernel
theorem dX3_bestHorns_40 : decode cX3_bestHorns 40 = .ok (.istore 6, 2) := by decide +kernel
theorem dX3_bestHorns_42 : decode cX3_bestHorns 42 = .ok (.iload 6, 2) := by decide +kernel
theorem dX3_bestHorns_44 : decode cX3_bestHorns 44 = .ok (.iload_n 3, 1) := by decide +kernel
theorem dX3_bestHorns_45 : decode cX3_bestHorns 45 = .ok (.if_icmp .le 9, 3) := by decide +kernel
theorem dX3_bestHorns_48 : decode cX3_bestHorns 48 = .ok (.iload 5, 2) := by decide +kernel
theorem dX3_bestHorns_50 : decode cX3_bestHorns 50 = .ok (.istore_n 2, 1) := by decide +kernel
theorem dX3_bestHorns_51 : decode cX3_bestHorns 51 = .ok (.iload 6, 2) := by decide +kernel
theorem dX3_bestHorns_53 : decode cX3_bestHorns 53 = .ok (.istore_n 3, 1) := by decide +kernel
theorem dX3_bestHorns_54 : decode cX3_bestHorns 54 = .ok (.iinc 5 1, 3) := by decide +kernel
theorem dX3_bestHorns_57 : decode cX3_bestHorns 57 = .ok (.goto (-39), 3) := by decide +kernel
theorem dX3_bestHorns_60 : decode cX3_bestHorns 60 = .ok (.iload_n 2, 1) := by decide +kernel
theorem dX3_bestHorns_61 : decode cX3_bestHorns 61 = .ok (.ireturn, 1) := by decide +kernel
theorem dX3_neverGoesDown_0 : decode cX3_neverGoesDown 0 = .ok (.iload_n 0, 1) := by decide +kernel
theorem dX3_neverGoesDown_1 : decode cX3_neverGoesDown 1 = .ok (.istore_n 1, 1) := by decide +kernel
theorem dX3_neverGoesDown_2 : decode cX3_neverGoesDown 2 = .ok (.iconst 1, 1) := by decide +kernel
theorem dX3_neverGoesDown_3 : decode cX3_neverGoesDown 3 = .ok (.istore_n 2, 1) := by decide +kernel
theorem dX3_neverGoesDown_4 : decode cX3_neverGoesDown 4 = .ok (.iload_n 2, 1) := by decide +kernel
theorem dX3_neverGoesDown_5 : decode cX3_neverGoesDown 5 = .ok (.iconst 3, 1) := by decide +kernel
theorem dX3_neverGoesDown_6 : decode cX3_neverGoesDown 6 = .ok (.if_icmp .ge 30, 3) := by decide +kernel
theorem dX3_neverGoesDown_9 : decode cX3_neverGoesDown 9 = .ok (.iload_n 1, 1) := by decide +kernel
theorem dX3_neverGoesDown_10 : decode cX3_neverGoesDown 10 = .ok (.bipush 10, 2) := by decide +kernel
theorem dX3_neverGoesDown_12 : decode cX3_neverGoesDown 12 = .ok (.idiv, 1) := by decide +kernel
theorem dX3_neverGoesDown_13 : decode cX3_neverGoesDown 13 = .ok (.bipush 10, 2) := by decide +kernel
theorem dX3_neverGoesDown_15 : decode cX3_neverGoesDown 15 = .ok (.irem, 1) := by decide +kernel
theorem dX3_neverGoesDown_16 : decode cX3_neverGoesDown 16 = .ok (.iload_n 1, 1) := by decide +kernel
theorem dX3_neverGoesDown_17 : decode cX3_neverGoesDown 17 = .ok (.bipush 10, 2) := by decide +kernel
theorem dX3_neverGoesDown_19 : decode cX3_neverGoesDown 19 = .ok (.irem, 1) := by decide +kernel
theorem dX3_neverGoesDown_20 : decode cX3_neverGoesDown 20 = .ok (.if_icmp .le 5, 3) := by decide +kernel
theorem dX3_neverGoesDown_23 : decode cX3_neverGoesDown 23 = .ok (.iconst 0, 1) := by decide +kernel
theorem dX3_neverGoesDown_24 : decode cX3_neverGoesDown 24 = .ok (.ireturn, 1) := by decide +kernel
theorem dX3_neverGoesDown_25 : decode cX3_neverGoesDown 25 = .ok (.iload_n 1, 1) := by decide +kernel
theorem dX3_neverGoesDown_26 : decode cX3_neverGoesDown 26 = .ok (.bipush 10, 2) := by decide +kernel
theorem dX3_neverGoesDown_28 : decode cX3_neverGoesDown 28 = .ok (.idiv, 1) := by decide +kernel
theorem dX3_neverGoesDown_29 : decode cX3_neverGoesDown 29 = .ok (.istore_n 1, 1) := by decide +kernel
theorem dX3_neverGoesDown_30 : decode cX3_neverGoesDown 30 = .ok (.iinc 2 1, 3) := by decide +kernel
theorem dX3_neverGoesDown_33 : decode cX3_neverGoesDown 33 = .ok (.goto (-29), 3) := by decide +kernel
theorem dX3_neverGoesDown_36 : decode cX3_neverGoesDown 36 = .ok (.iconst 1, 1) := by decide +kernel
theorem dX3_neverGoesDown_37 : decode cX3_neverGoesDown 37 = .ok (.ireturn, 1) := by decide +kernel
theorem dX3_downByHorns_0 : decode cX3_downByHorns 0 = .ok (.iconst 0, 1) := by decide +kernel
theorem dX3_downByHorns_1 : decode cX3_downByHorns 1 = .ok (.istore_n 3, 1) := by decide +kernel
theorem dX3_downByHorns_2 : decode cX3_downByHorns 2 = .ok (.iconst 0, 1) := by decide +kernel
theorem dX3_downByHorns_3 : decode cX3_downByHorns 3 = .ok (.istore 4, 2) := by decide +kernel
theorem dX3_downByHorns_5 : decode cX3_downByHorns 5 = .ok (.iload 4, 2) := by decide +kernel
theorem dX3_downByHorns_7 : decode cX3_downByHorns 7 = .ok (.bipush 12, 2) := by decide +kernel
theorem dX3_downByHorns_9 : decode cX3_downByHorns 9 = .ok (.if_icmp .ge 80, 3) := by decide +kernel
theorem dX3_downByHorns_12 : decode cX3_downByHorns 12 = .ok (.aload_n 0, 1) := by decide +kernel
theorem dX3_downByHorns_13 : decode cX3_downByHorns 13 = .ok (.getfield 9, 3) := by decide +kernel
theorem dX3_downByHorns_16 : decode cX3_downByHorns 16 = .ok (.iload 4, 2) := by decide +kernel
theorem dX3_downByHorns_18 : decode cX3_downByHorns 18 = .ok (.iaload, 1) := by decide +kernel
theorem dX3_downByHorns_19 : decode cX3_downByHorns 19 = .ok (.istore 5, 2) := by decide +kernel
theorem dX3_downByHorns_21 : decode cX3_downByHorns 21 = .ok (.iload_n 1, 1) := by decide +kernel
theorem dX3_downByHorns_22 : decode cX3_downByHorns 22 = .ok (.istore 6, 2) := by decide +kernel
theorem dX3_downByHorns_24 : decode cX3_downByHorns 24 = .ok (.iconst 0, 1) := by decide +kernel
theorem dX3_downByHorns_25 : decode cX3_downByHorns 25 = .ok (.istore 7, 2) := by decide +kernel
theorem dX3_downByHorns_27 : decode cX3_downByHorns 27 = .ok (.iload 7, 2) := by decide +kernel
theorem dX3_downByHorns_29 : decode cX3_downByHorns 29 = .ok (.iload_n 2, 1) := by decide +kernel
theorem dX3_downByHorns_30 : decode cX3_downByHorns 30 = .ok (.if_icmp .ge 36, 3) := by decide +kernel
theorem dX3_downByHorns_33 : decode cX3_downByHorns 33 = .ok (.iload 5, 2) := by decide +kernel
theorem dX3_downByHorns_35 : decode cX3_downByHorns 35 = .ok (.iload 6, 2) := by decide +kernel
theorem dX3_downByHorns_37 : decode cX3_downByHorns 37 = .ok (.bipush 10, 2) := by decide +kernel
theorem dX3_downByHorns_39 : decode cX3_downByHorns 39 = .ok (.irem, 1) := by decide +kernel
theorem dX3_downByHorns_40 : decode cX3_downByHorns 40 = .ok (.aload_n 0, 1) := by decide +kernel
theorem dX3_downByHorns_41 : decode cX3_downByHorns 41 = .ok (.getfield 15, 3) := by decide +kernel
theorem dX3_downByHorns_44 : decode cX3_downByHorns 44 = .ok (.iload 4, 2) := by decide +kernel
theorem dX3_downByHorns_46 : decode cX3_downByHorns 46 = .ok (.iaload, 1) := by decide +kernel
theorem dX3_downByHorns_47 : decode cX3_downByHorns 47 = .ok (.invokestatic 63, 3) := by decide +kernel
theorem dX3_downByHorns_50 : decode cX3_downByHorns 50 = .ok (.isub, 1) := by decide +kernel
theorem dX3_downByHorns_51 : decode cX3_downByHorns 51 = .ok (.istore 5, 2) := by decide +kernel
theorem dX3_downByHorns_53 : decode cX3_downByHorns 53 = .ok (.iload 6, 2) := by decide +kernel
theorem dX3_downByHorns_55 : decode cX3_downByHorns 55 = .ok (.bipush 10, 2) := by decide +kernel
theorem dX3_downByHorns_57 : decode cX3_downByHorns 57 = .ok (.idiv, 1) := by decide +kernel
theorem dX3_downByHorns_58 : decode cX3_downByHorns 58 = .ok (.istore 6, 2) := by decide +kernel
theorem dX3_downByHorns_60 : decode cX3_downByHorns 60 = .ok (.iinc 7 1, 3) := by decide +kernel
theorem dX3_downByHorns_63 : decode cX3_downByHorns 63 = .ok (.goto (-36), 3) := by decide +kernel
theorem dX3_downByHorns_66 : decode cX3_downByHorns 66 = .ok (.iload 5, 2) := by decide +kernel
theorem dX3_downByHorns_68 : decode cX3_downByHorns 68 = .ok (.ifCond .gt 15, 3) := by decide +kernel
theorem dX3_downByHorns_71 : decode cX3_downByHorns 71 = .ok (.aload_n 0, 1) := by decide +kernel
theorem dX3_downByHorns_72 : decode cX3_downByHorns 72 = .ok (.iload 4, 2) := by decide +kernel
theorem dX3_downByHorns_74 : decode cX3_downByHorns 74 = .ok (.invokevirtual 69, 3) := by decide +kernel
theorem dX3_downByHorns_77 : decode cX3_downByHorns 77 = .ok (.ifCond .ne 6, 3) := by decide +kernel
theorem dX3_downByHorns_80 : decode cX3_downByHorns 80 = .ok (.iinc 3 1, 3) := by decide +kernel
theorem dX3_downByHorns_83 : decode cX3_downByHorns 83 = .ok (.iinc 4 1, 3) := by decide +kernel
theorem dX3_downByHorns_86 : decode cX3_downByHorns 86 = .ok (.goto (-81), 3) := by decide +kernel
theorem dX3_downByHorns_89 : decode cX3_downByHorns 89 = .ok (.iload_n 3, 1) := by decide +kernel
theorem dX3_downByHorns_90 : decode cX3_downByHorns 90 = .ok (.ireturn, 1) := by decide +kernel
theorem dX3_weakestStretch_0 : decode cX3_weakestStretch 0 = .ok (.iconst 0, 1) := by decide +kernel
theorem dX3_weakestStretch_1 : decode cX3_weakestStretch 1 = .ok (.istore_n 2, 1) := by decide +kernel
theorem dX3_weakestStretch_2 : decode cX3_weakestStretch 2 = .ok (.aload_n 0, 1) := by decide +kernel
theorem dX3_weakestStretch_3 : decode cX3_weakestStretch 3 = .ok (.iconst 0, 1) := by decide +kernel
theorem dX3_weakestStretch_4 : decode cX3_weakestStretch 4 = .ok (.iload_n 1, 1) := by decide +kernel
theorem dX3_weakestStretch_5 : decode cX3_weakestStretch 5 = .ok (.invokevirtual 99, 3) := by decide +kernel
theorem dX3_weakestStretch_8 : decode cX3_weakestStretch 8 = .ok (.istore_n 3, 1) := by decide +kernel
theorem dX3_weakestStretch_9 : decode cX3_weakestStretch 9 = .ok (.iconst 1, 1) := by decide +kernel
theorem dX3_weakestStretch_10 : decode cX3_weakestStretch 10 = .ok (.istore 4, 2) := by decide +kernel
theorem dX3_weakestStretch_12 : decode cX3_weakestStretch 12 = .ok (.iload 4, 2) := by decide +kernel
theorem dX3_weakestStretch_14 : decode cX3_weakestStretch 14 = .ok (.bipush 12, 2) := by decide +kernel
theorem dX3_weakestStretch_16 : decode cX3_weakestStretch 16 = .ok (.if_icmp .ge 30, 3) := by decide +kernel
theorem dX3_weakestStretch_19 : decode cX3_weakestStretch 19 = .ok (.aload_n 0, 1) := by decide +kernel
theorem dX3_weakestStretch_20 : decode cX3_weakestStretch 20 = .ok (.iload 4, 2) := by decide +kernel
theorem dX3_weakestStretch_22 : decode cX3_weakestStretch 22 = .ok (.iload_n 1, 1) := by decide +kernel
theorem dX3_weakestStretch_23 : decode cX3_weakestStretch 23 = .ok (.invokevirtual 99, 3) := by decide +kernel
theorem dX3_weakestStretch_26 : decode cX3_weakestStretch 26 = .ok (.istore 5, 2) := by decide +kernel
theorem dX3_weakestStretch_28 : decode cX3_weakestStretch 28 = .ok (.iload 5, 2) := by decide +kernel
theorem dX3_weakestStretch_30 : decode cX3_weakestStretch 30 = .ok (.iload_n 3, 1) := by decide +kernel
theorem dX3_weakestStretch_31 : decode cX3_weakestStretch 31 = .ok (.if_icmp .ge 9, 3) := by decide +kernel
theorem dX3_weakestStretch_34 : decode cX3_weakestStretch 34 = .ok (.iload 4, 2) := by decide +kernel
theorem dX3_weakestStretch_36 : decode cX3_weakestStretch 36 = .ok (.istore_n 2, 1) := by decide +kernel
theorem dX3_weakestStretch_37 : decode cX3_weakestStretch 37 = .ok (.iload 5, 2) := by decide +kernel
theorem dX3_weakestStretch_39 : decode cX3_weakestStretch 39 = .ok (.istore_n 3, 1) := by decide +kernel
theorem dX3_weakestStretch_40 : decode cX3_weakestStretch 40 = .ok (.iinc 4 1, 3) := by decide +kernel
theorem dX3_weakestStretch_43 : decode cX3_weakestStretch 43 = .ok (.goto (-31), 3) := by decide +kernel
theorem dX3_weakestStretch_46 : decode cX3_weakestStretch 46 = .ok (.iload_n 2, 1) := by decide +kernel
theorem dX3_weakestStretch_47 : decode cX3_weakestStretch 47 = .ok (.ireturn, 1) := by decide +kernel
theorem dX3_firmTogether_0 : decode cX3_firmTogether 0 = .ok (.iconst 0, 1) := by decide +kernel
theorem dX3_firmTogether_1 : decode cX3_firmTogether 1 = .ok (.istore_n 3, 1) := by decide +kernel
theorem dX3_firmTogether_2 : decode cX3_firmTogether 2 = .ok (.iconst 0, 1) := by decide +kernel
theorem dX3_firmTogether_3 : decode cX3_firmTogether 3 = .ok (.istore 4, 2) := by decide +kernel
theorem dX3_firmTogether_5 : decode cX3_firmTogether 5 = .ok (.iload 4, 2) := by decide +kernel
theorem dX3_firmTogether_7 : decode cX3_firmTogether 7 = .ok (.iload_n 2, 1) := by decide +kernel
theorem dX3_firmTogether_8 : decode cX3_firmTogether 8 = .ok (.if_icmp .ge 24, 3) := by decide +kernel
theorem dX3_firmTogether_11 : decode cX3_firmTogether 11 = .ok (.iload_n 3, 1) := by decide +kernel
theorem dX3_firmTogether_12 : decode cX3_firmTogether 12 = .ok (.aload_n 0, 1) := by decide +kernel
theorem dX3_firmTogether_13 : decode cX3_firmTogether 13 = .ok (.getfield 9, 3) := by decide +kernel
theorem dX3_firmTogether_16 : decode cX3_firmTogether 16 = .ok (.iload_n 1, 1) := by decide +kernel
theorem dX3_firmTogether_17 : decode cX3_firmTogether 17 = .ok (.iload 4, 2) := by decide +kernel
theorem dX3_firmTogether_19 : decode cX3_firmTogether 19 = .ok (.iadd, 1) := by decide +kernel
theorem dX3_firmTogether_20 : decode cX3_firmTogether 20 = .ok (.bipush 12, 2) := by decide +kernel
theorem dX3_firmTogether_22 : decode cX3_firmTogether 22 = .ok (.irem, 1) := by decide +kernel
theorem dX3_firmTogether_23 : decode cX3_firmTogether 23 = .ok (.iaload, 1) := by decide +kernel
theorem dX3_firmTogether_24 : decode cX3_firmTogether 24 = .ok (.iadd, 1) := by decide +kernel
theorem dX3_firmTogether_25 : decode cX3_firmTogether 25 = .ok (.istore_n 3, 1) := by decide +kernel
theorem dX3_firmTogether_26 : decode cX3_firmTogether 26 = .ok (.iinc 4 1, 3) := by decide +kernel
theorem dX3_firmTogether_29 : decode cX3_firmTogether 29 = .ok (.goto (-24), 3) := by decide +kernel
theorem dX3_firmTogether_32 : decode cX3_firmTogether 32 = .ok (.iload_n 3, 1) := by decide +kernel
theorem dX3_firmTogether_33 : decode cX3_firmTogether 33 = .ok (.ireturn, 1) := by decide +kernel
theorem dX4_init_0 : decode cX4_init 0 = .ok (.aload_n 0, 1) := by decide +kernel
theorem dX4_init_1 : decode cX4_init 1 = .ok (.invokespecial 1, 3) := by decide +kernel
theorem dX4_init_4 : decode cX4_init 4 = .ok (.aload_n 0, 1) := by decide +kernel
theorem dX4_init_5 : decode cX4_init 5 = .ok (.new 7, 3) := by decide +kernel
theorem dX4_init_8 : decode cX4_init 8 = .ok (.dup, 1) := by decide +kernel
theorem dX4_init_9 : decode cX4_init 9 = .ok (.invokespecial 9, 3) := by decide +kernel
theorem dX4_init_12 : decode cX4_init 12 = .ok (.putfield 10, 3) := by decide +kernel
theorem dX4_init_15 : decode cX4_init 15 = .ok (.aload_n 0, 1) := by decide +kernel
theorem dX4_init_16 : decode cX4_init 16 = .ok (.new 16, 3) := by decide +kernel
theorem dX4_init_19 : decode cX4_init 19 = .ok (.dup, 1) := by decide +kernel
theorem dX4_init_20 : decode cX4_init 20 = .ok (.invokespecial 18, 3) := by decide +kernel
theorem dX4_init_23 : decode cX4_init 23 = .ok (.putfield 19, 3) := by decide +kernel
theorem dX4_init_26 : decode cX4_init 26 = .ok (.aload_n 0, 1) := by decide +kernel
theorem dX4_init_27 : decode cX4_init 27 = .ok (.new 23, 3) := by decide +kernel
theorem dX4_init_30 : decode cX4_init 30 = .ok (.dup, 1) := by decide +kernel
theorem dX4_init_31 : decode cX4_init 31 = .ok (.invokespecial 25, 3) := by decide +kernel
theorem dX4_init_34 : decode cX4_init 34 = .ok (.putfield 26, 3) := by decide +kernel
theorem dX4_init_37 : decode cX4_init 37 = .ok (.aload_n 0, 1) := by decide +kernel
theorem dX4_init_38 : decode cX4_init 38 = .ok (.iconst 2, 1) := by decide +kernel
theorem dX4_init_39 : decode cX4_init 39 = .ok (.anewarray 16, 3) := by decide +kernel
theorem dX4_init_42 : decode cX4_init 42 = .ok (.putfield 30, 3) := by decide +kernel
theorem dX4_init_45 : decode cX4_init 45 = .ok (.return_, 1) := by decide +kernel
theorem dX4_part_0 : decode cX4_part 0 = .ok (.iload_n 1, 1) := by decide +kernel
theorem dX4_part_1 : decode cX4_part 1 = .ok (.iconst 0, 1) := by decide +kernel
theorem dX4_part_2 : decode cX4_part 2 = .ok (.bipush 11, 2) := by decide +kernel
theorem dX4_part_4 : decode cX4_part 4 = .ok (.invokestatic 34, 3) := by decide +kernel
theorem dX4_part_7 : decode cX4_part 7 = .ok (.ifCond .eq 5, 3) := by decide +kernel
theorem dX4_part_10 : decode cX4_part 10 = .ok (.iconst (-1), 1) := by decide +kernel
theorem dX4_part_11 : decode cX4_part 11 = .ok (.ireturn, 1) := by decide +kernel
theorem dX4_part_12 : decode cX4_part 12 = .ok (.iload_n 2, 1) := by decide +kernel
theorem dX4_part_13 : decode cX4_part 13 = .ok (.iconst 0, 1) := by decide +kernel
theorem dX4_part_14 : decode cX4_part 14 = .ok (.bipush 99, 2) := by decide +kernel
theorem dX4_part_16 : decode cX4_part 16 = .ok (.invokestatic 34, 3) := by decide +kernel
theorem dX4_part_19 : decode cX4_part 19 = .ok (.ifCond .ne 13, 3) := by decide +kernel
theorem dX4_part_22 : decode cX4_part 22 = .ok (.iload_n 3, 1) := by decide +kernel
theorem dX4_part_23 : decode cX4_part 23 = .ok (.iconst 0, 1) := by decide +kernel
theorem dX4_part_24 : decode cX4_part 24 = .ok (.bipush 9, 2) := by decide +kernel
theorem dX4_part_26 : decode cX4_part 26 = .ok (.invokestatic 34, 3) := by decide +kernel
theorem dX4_part_29 : decode cX4_part 29 = .ok (.ifCond .eq 6, 3) := by decide +kernel
theorem dX4_part_32 : decode cX4_part 32 = .ok (.bipush (-2), 2) := by decide +kernel
theorem dX4_part_34 : decode cX4_part 34 = .ok (.ireturn, 1) := by decide +kernel
theorem dX4_part_35 : decode cX4_part 35 = .ok (.aload_n 0, 1) := by decide +kernel
theorem dX4_part_36 : decode cX4_part 36 = .ok (.getfield 19, 3) := by decide +kernel
theorem dX4_part_39 : decode cX4_part 39 = .ok (.getfield 38, 3) := by decide +kernel
theorem dX4_part_42 : decode cX4_part 42 = .ok (.getfield 42, 3) := by decide +kernel
theorem dX4_part_45 : decode cX4_part 45 = .ok (.iload_n 1, 1) := by decide +kernel
theorem dX4_part_46 : decode cX4_part 46 = .ok (.iaload, 1) := by decide +kernel
theorem dX4_part_47 : decode cX4_part 47 = .ok (.istore 4, 2) := by decide +kernel
theorem dX4_part_49 : decode cX4_part 49 = .ok (.aload_n 0, 1) := by decide +kernel
theorem dX4_part_50 : decode cX4_part 50 = .ok (.getfield 19, 3) := by decide +kernel
theorem dX4_part_53 : decode cX4_part 53 = .ok (.getfield 38, 3) := by decide +kernel
theorem dX4_part_56 : decode cX4_part 56 = .ok (.getfield 42, 3) := by decide +kernel
theorem dX4_part_59 : decode cX4_part 59 = .ok (.iload_n 1, 1) := by decide +kernel
theorem dX4_part_60 : decode cX4_part 60 = .ok (.iload_n 2, 1) := by decide +kernel
theorem dX4_part_61 : decode cX4_part 61 = .ok (.iastore, 1) := by decide +kernel
theorem dX4_part_62 : decode cX4_part 62 = .ok (.aload_n 0, 1) := by decide +kernel
theorem dX4_part_63 : decode cX4_part 63 = .ok (.getfield 19, 3) := by decide +kernel
theorem dX4_part_66 : decode cX4_part 66 = .ok (.getfield 38, 3) := by decide +kernel
theorem dX4_part_69 : decode cX4_part 69 = .ok (.getfield 48, 3) := by decide +kernel
theorem dX4_part_72 : decode cX4_part 72 = .ok (.iload_n 1, 1) := by decide +kernel
theorem dX4_part_73 : decode cX4_part 73 = .ok (.iload_n 3, 1) := by decide +kernel
theorem dX4_part_74 : decode cX4_part 74 = .ok (.iastore, 1) := by decide +kernel
theorem dX4_part_75 : decode cX4_part 75 = .ok (.iload 4, 2) := by decide +kernel
theorem dX4_part_77 : decode cX4_part 77 = .ok (.ireturn, 1) := by decide +kernel
theorem dX4_thread_0 : decode cX4_thread 0 = .ok (.iload_n 1, 1) := by decide +kernel
theorem dX4_thread_1 : decode cX4_thread 1 = .ok (.iconst 0, 1) := by decide +kernel
theorem dX4_thread_2 : decode cX4_thread 2 = .ok (.bipush 11, 2) := by decide +kernel
theorem dX4_thread_4 : decode cX4_thread 4 = .ok (.invokestatic 34, 3) := by decide +kernel
theorem dX4_thread_7 : decode cX4_thread 7 = .ok (.ifCond .eq 5, 3) := by decide +kernel
theorem dX4_thread_10 : decode cX4_thread 10 = .ok (.iconst (-1), 1) := by decide +kernel
theorem dX4_thread_11 : decode cX4_thread 11 = .ok (.ireturn, 1) := by decide +kernel
theorem dX4_thread_12 : decode cX4_thread 12 = .ok (.iconst 1, 1) := by decide +kernel
theorem dX4_thread_13 : decode cX4_thread 13 = .ok (.iload_n 1, 1) := by decide +kernel
theorem dX4_thread_14 : decode cX4_thread 14 = .ok (.ishl, 1) := by decide +kernel
theorem dX4_thread_15 : decode cX4_thread 15 = .ok (.istore_n 3, 1) := by decide +kernel
theorem dX4_thread_16 : decode cX4_thread 16 = .ok (.aload_n 0, 1) := by decide +kernel
theorem dX4_thread_17 : decode cX4_thread 17 = .ok (.getfield 19, 3) := by decide +kernel
theorem dX4_thread_20 : decode cX4_thread 20 = .ok (.getfield 38, 3) := by decide +kernel
theorem dX4_thread_23 : decode cX4_thread 23 = .ok (.iload_n 2, 1) := by decide +kernel
theorem dX4_thread_24 : decode cX4_thread 24 = .ok (.ifCond .eq 18, 3) := by decide +kernel
theorem dX4_thread_27 : decode cX4_thread 27 = .ok (.aload_n 0, 1) := by decide +kernel
theorem dX4_thread_28 : decode cX4_thread 28 = .ok (.getfield 19, 3) := by decide +kernel
theorem dX4_thread_31 : decode cX4_thread 31 = .ok (.getfield 38, 3) := by decide +kernel
theorem dX4_thread_34 : decode cX4_thread 34 = .ok (.getfield 51, 3) := by decide +kernel
theorem dX4_thread_37 : decode cX4_thread 37 = .ok (.iload_n 3, 1) := by decide +kernel
theorem dX4_thread_38 : decode cX4_thread 38 = .ok (.ior, 1) := by decide +kernel
theorem dX4_thread_39 : decode cX4_thread 39 = .ok (.goto 17, 3) := by decide +kernel
theorem dX4_thread_42 : decode cX4_thread 42 = .ok (.aload_n 0, 1) := by decide +kernel
theorem dX4_thread_43 : decode cX4_thread 43 = .ok (.getfield 19, 3) := by decide +kernel
theorem dX4_thread_46 : decode cX4_thread 46 = .ok (.getfield 38, 3) := by decide +kernel
theorem dX4_thread_49 : decode cX4_thread 49 = .ok (.getfield 51, 3) := by decide +kernel
theorem dX4_thread_52 : decode cX4_thread 52 = .ok (.iload_n 3, 1) := by decide +kernel
theorem dX4_thread_53 : decode cX4_thread 53 = .ok (.iconst (-1), 1) := by decide +kernel
theorem dX4_thread_54 : decode cX4_thread 54 = .ok (.ixor, 1) := by decide +kernel
theorem dX4_thread_55 : decode cX4_thread 55 = .ok (.iand, 1) := by decide +kernel
theorem dX4_thread_56 : decode cX4_thread 56 = .ok (.putfield 51, 3) := by decide +kernel
theorem dX4_thread_59 : decode cX4_thread 59 = .ok (.aload_n 0, 1) := by decide +kernel
theorem dX4_thread_60 : decode cX4_thread 60 = .ok (.getfield 19, 3) := by decide +kernel
theorem dX4_thread_63 : decode cX4_thread 63 = .ok (.getfield 38, 3) := by decide +kernel
theorem dX4_thread_66 : decode cX4_thread 66 = .ok (.getfield 51, 3) := by decide +kernel
theorem dX4_thread_69 : decode cX4_thread 69 = .ok (.invokestatic 55, 3) := by decide +kernel
theorem dX4_thread_72 : decode cX4_thread 72 = .ok (.ireturn, 1) := by decide +kernel
theorem dX4_set_0 : decode cX4_set 0 = .ok (.iload_n 1, 1) := by decide +kernel
theorem dX4_set_1 : decode cX4_set 1 = .ok (.tableswitch 108 0 2 #[27, 54, 81], 27) := by decide +kernel
theorem dX4_set_28 : decode cX4_set 28 = .ok (.iload_n 2, 1) := by decide +kernel
theorem dX4_set_29 : decode cX4_set 29 = .ok (.iconst 0, 1) := by decide +kernel
theorem dX4_set_30 : decode cX4_set 30 = .ok (.bipush 99, 2) := by decide +kernel
theorem dX4_set_32 : decode cX4_set 32 = .ok (.invokestatic 34, 3) := by decide +kernel
theorem dX4_set_35 : decode cX4_set 35 = .ok (.ifCond .eq 8, 3) := by decide +kernel
theorem dX4_set_38 : decode cX4_set 38 = .ok (.bipush (-2), 2) := by decide +kernel
theorem dX4_set_40 : decode cX4_set 40 = .ok (.goto 14, 3) := by decide +kernel
theorem dX4_set_43 : decode cX4_set 43 = .ok (.aload_n 0, 1) := by decide +kernel
theorem dX4_set_44 : decode cX4_set 44 = .ok (.getfield 19, 3) := by decide +kernel
theorem dX4_set_47 : decode cX4_set 47 = .ok (.getfield 38, 3) := by decide +kernel
theorem dX4_set_50 : decode cX4_set 50 = .ok (.iload_n 2, 1) := by decide +kernel
theorem dX4_set_51 : decode cX4_set 51 = .ok (.invokevirtual 61, 3) := by decide +kernel
theorem dX4_set_54 : decode cX4_set 54 = .ok (.ireturn, 1) := by decide +kernel
theorem dX4_set_55 : decode cX4_set 55 = .ok (.iload_n 2, 1) := by decide +kernel
theorem dX4_set_56 : decode cX4_set 56 = .ok (.iconst 0, 1) := by decide +kernel
theorem dX4_set_57 : decode cX4_set 57 = .ok (.bipush 12, 2) := by decide +kernel
theorem dX4_set_59 : decode cX4_set 59 = .ok (.invokestatic 34, 3) := by decide +kernel
theorem dX4_set_62 : decode cX4_set 62 = .ok (.ifCond .eq 8, 3) := by decide +kernel
theorem dX4_set_65 : decode cX4_set 65 = .ok (.bipush (-2), 2) := by decide +kernel
theorem dX4_set_67 : decode cX4_set 67 = .ok (.goto 14, 3) := by decide +kernel
theorem dX4_set_70 : decode cX4_set 70 = .ok (.aload_n 0, 1) := by decide +kernel
theorem dX4_set_71 : decode cX4_set 71 = .ok (.getfield 19, 3) := by decide +kernel
theorem dX4_set_74 : decode cX4_set 74 = .ok (.getfield 38, 3) := by decide +kernel
theorem dX4_set_77 : decode cX4_set 77 = .ok (.iload_n 2, 1) := by decide +kernel
theorem dX4_set_78 : decode cX4_set 78 = .ok (.invokevirtual 64, 3) := by decide +kernel
theorem dX4_set_81 : decode cX4_set 81 = .ok (.ireturn, 1) := by decide +kernel
theorem dX4_set_82 : decode cX4_set 82 = .ok (.iload_n 2, 1) := by decide +kernel
theorem dX4_set_83 : decode cX4_set 83 = .ok (.iconst 0, 1) := by decide +kernel
theorem dX4_set_84 : decode cX4_set 84 = .ok (.bipush 99, 2) := by decide +kernel
theorem dX4_set_86 : decode cX4_set 86 = .ok (.invokestatic 34, 3) := by decide +kernel
theorem dX4_set_89 : decode cX4_set 89 = .ok (.ifCond .eq 8, 3) := by decide +kernel
theorem dX4_set_92 : decode cX4_set 92 = .ok (.bipush (-2), 2) := by decide +kernel
theorem dX4_set_94 : decode cX4_set 94 = .ok (.goto 14, 3) := by decide +kernel
theorem dX4_set_97 : decode cX4_set 97 = .ok (.aload_n 0, 1) := by decide +kernel
theorem dX4_set_98 : decode cX4_set 98 = .ok (.getfield 19, 3) := by decide +kernel
theorem dX4_set_101 : decode cX4_set 101 = .ok (.getfield 38, 3) := by decide +kernel
theorem dX4_set_104 : decode cX4_set 104 = .ok (.iload_n 2, 1) := by decide +kernel
theorem dX4_set_105 : decode cX4_set 105 = .ok (.invokevirtual 67, 3) := by decide +kernel
theorem dX4_set_108 : decode cX4_set 108 = .ok (.ireturn, 1) := by decide +kernel
theorem dX4_set_109 : decode cX4_set 109 = .ok (.bipush (-2), 2) := by decide +kernel
theorem dX4_set_111 : decode cX4_set 111 = .ok (.ireturn, 1) := by decide +kernel
theorem dX4_man_0 : decode cX4_man 0 = .ok (.iload_n 1, 1) := by decide +kernel
theorem dX4_man_1 : decode cX4_man 1 = .ok (.iconst 0, 1) := by decide +kernel
theorem dX4_man_2 : decode cX4_man 2 = .ok (.bipush 7, 2) := by decide +kernel
theorem dX4_man_4 : decode cX4_man 4 = .ok (.invokestatic 34, 3) := by decide +kernel
theorem dX4_man_7 : decode cX4_man 7 = .ok (.ifCond .eq 5, 3) := by decide +kernel
theorem dX4_man_10 : decode cX4_man 10 = .ok (.iconst (-1), 1) := by decide +kernel
theorem dX4_man_11 : decode cX4_man 11 = .ok (.ireturn, 1) := by decide +kernel
theorem dX4_man_12 : decode cX4_man 12 = .ok (.iload_n 2, 1) := by decide +kernel
theorem dX4_man_13 : decode cX4_man 13 = .ok (.iconst 0, 1) := by decide +kernel
theorem dX4_man_14 : decode cX4_man 14 = .ok (.bipush 8, 2) := by decide +kernel
theorem dX4_man_16 : decode cX4_man 16 = .ok (.invokestatic 34, 3) := by decide +kernel
theorem dX4_man_19 : decode cX4_man 19 = .ok (.ifCond .eq 6, 3) := by decide +kernel
theorem dX4_man_22 : decode cX4_man 22 = .ok (.bipush (-2), 2) := by decide +kernel
theorem dX4_man_24 : decode cX4_man 24 = .ok (.ireturn, 1) := by decide +kernel
theorem dX4_man_25 : decode cX4_man 25 = .ok (.aload_n 0, 1) := by decide +kernel
theorem dX4_man_26 : decode cX4_man 26 = .ok (.getfield 19, 3) := by decide +kernel
theorem dX4_man_29 : decode cX4_man 29 = .ok (.getfield 70, 3) := by decide +kernel
theorem dX4_man_32 : decode cX4_man 32 = .ok (.iload_n 1, 1) := by decide +kernel
theorem dX4_man_33 : decode cX4_man 33 = .ok (.iaload, 1) := by decide +kernel
theorem dX4_man_34 : decode cX4_man 34 = .ok (.istore_n 3, 1) := by decide +kernel
theorem dX4_man_35 : decode cX4_man 35 = .ok (.aload_n 0, 1) := by decide +kernel
theorem dX4_man_36 : decode cX4_man 36 = .ok (.getfield 19, 3) := by decide +kernel
theorem dX4_man_39 : decode cX4_man 39 = .ok (.getfield 70, 3) := by decide +kernel
theorem dX4_man_42 : decode cX4_man 42 = .ok (.iload_n 1, 1) := by decide +kernel
theorem dX4_man_43 : decode cX4_man 43 = .ok (.iload_n 2, 1) := by decide +kernel
theorem dX4_man_44 : decode cX4_man 44 = .ok (.iastore, 1) := by decide +kernel
theorem dX4_man_45 : decode cX4_man 45 = .ok (.iload_n 3, 1) := by decide +kernel
theorem dX4_man_46 : decode cX4_man 46 = .ok (.ireturn, 1) := by decide +kernel
theorem dX4_say_0 : decode cX4_say 0 = .ok (.iload_n 1, 1) := by decide +kernel
theorem dX4_say_1 : decode cX4_say 1 = .ok (.bipush 33, 2) := by decide +kernel
theorem dX4_say_3 : decode cX4_say 3 = .ok (.bipush 126, 2) := by decide +kernel
theorem dX4_say_5 : decode cX4_say 5 = .ok (.invokestatic 34, 3) := by decide +kernel
theorem dX4_say_8 : decode cX4_say 8 = .ok (.ifCond .eq 6, 3) := by decide +kernel
theorem dX4_say_11 : decode cX4_say 11 = .ok (.bipush (-2), 2) := by decide +kernel
theorem dX4_say_13 : decode cX4_say 13 = .ok (.ireturn, 1) := by decide +kernel
theorem dX4_say_14 : decode cX4_say 14 = .ok (.aload_n 0, 1) := by decide +kernel
theorem dX4_say_15 : decode cX4_say 15 = .ok (.getfield 10, 3) := by decide +kernel
theorem dX4_say_18 : decode cX4_say 18 = .ok (.iload_n 1, 1) := by decide +kernel
theorem dX4_say_19 : decode cX4_say 19 = .ok (.invokevirtual 73, 3) := by decide +kernel
theorem dX4_say_22 : decode cX4_say 22 = .ok (.ifCond .eq 13, 3) := by decide +kernel
theorem dX4_say_25 : decode cX4_say 25 = .ok (.aload_n 0, 1) := by decide +kernel
theorem dX4_say_26 : decode cX4_say 26 = .ok (.getfield 10, 3) := by decide +kernel
theorem dX4_say_29 : decode cX4_say 29 = .ok (.getfield 77, 3) := by decide +kernel
theorem dX4_say_32 : decode cX4_say 32 = .ok (.goto 5, 3) := by decide +kernel
theorem dX4_say_35 : decode cX4_say 35 = .ok (.bipush (-4), 2) := by decide +kernel
theorem dX4_say_37 : decode cX4_say 37 = .ok (.ireturn, 1) := by decide +kernel
theorem dX4_wipe_0 : decode cX4_wipe 0 = .ok (.aload_n 0, 1) := by decide +kernel
theorem dX4_wipe_1 : decode cX4_wipe 1 = .ok (.getfield 10, 3) := by decide +kernel
theorem dX4_wipe_4 : decode cX4_wipe 4 = .ok (.invokevirtual 80, 3) := by decide +kernel
theorem dX4_wipe_7 : decode cX4_wipe 7 = .ok (.ireturn, 1) := by decide +kernel
theorem dX4_fault_0 : decode cX4_fault 0 = .ok (.aload_n 0, 1) := by decide +kernel
theorem dX4_fault_1 : decode cX4_fault 1 = .ok (.getfield 10, 3) := by decide +kernel
theorem dX4_fault_4 : decode cX4_fault 4 = .ok (.invokevirtual 84, 3) := by decide +kernel
theorem dX4_fault_7 : decode cX4_fault 7 = .ok (.ireturn, 1) := by decide +kernel
theorem dX4_judge_0 : decode cX4_judge 0 = .ok (.iload_n 1, 1) := by decide +kernel
theorem dX4_judge_1 : decode cX4_judge 1 = .ok (.iconst 0, 1) := by decide +kernel
theorem dX4_judge_2 : decode cX4_judge 2 = .ok (.iconst 1, 1) := by decide +kernel
theorem dX4_judge_3 : decode cX4_judge 3 = .ok (.invokestatic 34, 3) := by decide +kernel
theorem dX4_judge_6 : decode cX4_judge 6 = .ok (.ifCond .eq 6, 3) := by decide +kernel
theorem dX4_judge_9 : decode cX4_judge 9 = .ok (.bipush (-2), 2) := by decide +kernel
theorem dX4_judge_11 : decode cX4_judge 11 = .ok (.ireturn, 1) := by decide +kernel
theorem dX4_judge_12 : decode cX4_judge 12 = .ok (.aload_n 0, 1) := by decide +kernel
theorem dX4_judge_13 : decode cX4_judge 13 = .ok (.getfield 10, 3) := by decide +kernel
theorem dX4_judge_16 : decode cX4_judge 16 = .ok (.invokevirtual 84, 3) := by decide +kernel
theorem dX4_judge_19 : decode cX4_judge 19 = .ok (.bipush (-6), 2) := by decide +kernel
theorem dX4_judge_21 : decode cX4_judge 21 = .ok (.if_icmp .eq 6, 3) := by decide +kernel
theorem dX4_judge_24 : decode cX4_judge 24 = .ok (.bipush (-5), 2) := by decide +kernel
theorem dX4_judge_26 : decode cX4_judge 26 = .ok (.ireturn, 1) := by decide +kernel
theorem dX4_judge_27 : decode cX4_judge 27 = .ok (.aload_n 0, 1) := by decide +kernel
theorem dX4_judge_28 : decode cX4_judge 28 = .ok (.getfield 26, 3) := by decide +kernel
theorem dX4_judge_31 : decode cX4_judge 31 = .ok (.aload_n 0, 1) := by decide +kernel
theorem dX4_judge_32 : decode cX4_judge 32 = .ok (.getfield 10, 3) := by decide +kernel
theorem dX4_judge_35 : decode cX4_judge 35 = .ok (.aload_n 0, 1) := by decide +kernel
theorem dX4_judge_36 : decode cX4_judge 36 = .ok (.getfield 19, 3) := by decide +kernel
theorem dX4_judge_39 : decode cX4_judge 39 = .ok (.getfield 38, 3) := by decide +kernel
theorem dX4_judge_42 : decode cX4_judge 42 = .ok (.invokevirtual 87, 3) := by decide +kernel
theorem dX4_judge_45 : decode cX4_judge 45 = .ok (.aload_n 0, 1) := by decide +kernel
theorem dX4_judge_46 : decode cX4_judge 46 = .ok (.getfield 26, 3) := by decide +kernel
theorem dX4_judge_49 : decode cX4_judge 49 = .ok (.getfield 91, 3) := by decide +kernel
theorem dX4_judge_52 : decode cX4_judge 52 = .ok (.ifCond .ne 6, 3) := by decide +kernel
theorem dX4_judge_55 : decode cX4_judge 55 = .ok (.bipush (-6), 2) := by decide +kernel
theorem dX4_judge_57 : decode cX4_judge 57 = .ok (.ireturn, 1) := by decide +kernel
theorem dX4_judge_58 : decode cX4_judge 58 = .ok (.iload_n 1, 1) := by decide +kernel
theorem dX4_judge_59 : decode cX4_judge 59 = .ok (.ifCond .ne 13, 3) := by decide +kernel
theorem dX4_judge_62 : decode cX4_judge 62 = .ok (.aload_n 0, 1) := by decide +kernel
theorem dX4_judge_63 : decode cX4_judge 63 = .ok (.getfield 26, 3) := by decide +kernel
theorem dX4_judge_66 : decode cX4_judge 66 = .ok (.getfield 94, 3) := by decide +kernel
theorem dX4_judge_69 : decode cX4_judge 69 = .ok (.goto 10, 3) := by decide +kernel
theorem dX4_judge_72 : decode cX4_judge 72 = .ok (.aload_n 0, 1) := by decide +kernel
theorem dX4_judge_73 : decode cX4_judge 73 = .ok (.getfield 26, 3) := by decide +kernel
theorem dX4_judge_76 : decode cX4_judge 76 = .ok (.getfield 91, 3) := by decide +kernel
theorem dX4_judge_79 : decode cX4_judge 79 = .ok (.ireturn, 1) := by decide +kernel
theorem dX4_done_0 : decode cX4_done 0 = .ok (.aload_n 0, 1) := by decide +kernel
theorem dX4_done_1 : decode cX4_done 1 = .ok (.invokevirtual 97, 3) := by decide +kernel
theorem dX4_done_4 : decode cX4_done 4 = .ok (.ifCond .ne 6, 3) := by decide +kernel
theorem dX4_done_7 : decode cX4_done 7 = .ok (.bipush (-5), 2) := by decide +kernel
theorem dX4_done_9 : decode cX4_done 9 = .ok (.ireturn, 1) := by decide +kernel
theorem dX4_done_10 : decode cX4_done 10 = .ok (.aload_n 0, 1) := by decide +kernel
theorem dX4_done_11 : decode cX4_done 11 = .ok (.getfield 19, 3) := by decide +kernel
theorem dX4_done_14 : decode cX4_done 14 = .ok (.getfield 38, 3) := by decide +kernel
theorem dX4_done_17 : decode cX4_done 17 = .ok (.aload_n 0, 1) := by decide +kernel
theorem dX4_done_18 : decode cX4_done 18 = .ok (.getfield 26, 3) := by decide +kernel
theorem dX4_done_21 : decode cX4_done 21 = .ok (.getfield 101, 3) := by decide +kernel
theorem dX4_done_24 : decode cX4_done 24 = .ok (.invokevirtual 102, 3) := by decide +kernel
theorem dX4_done_27 : decode cX4_done 27 = .ok (.aload_n 0, 1) := by decide +kernel
theorem dX4_done_28 : decode cX4_done 28 = .ok (.getfield 10, 3) := by decide +kernel
theorem dX4_done_31 : decode cX4_done 31 = .ok (.invokevirtual 80, 3) := by decide +kernel
theorem dX4_done_34 : decode cX4_done 34 = .ok (.pop, 1) := by decide +kernel
theorem dX4_done_35 : decode cX4_done 35 = .ok (.aload_n 0, 1) := by decide +kernel
theorem dX4_done_36 : decode cX4_done 36 = .ok (.getfield 26, 3) := by decide +kernel
theorem dX4_done_39 : decode cX4_done 39 = .ok (.getfield 94, 3) := by decide +kernel
theorem dX4_done_42 : decode cX4_done 42 = .ok (.ireturn, 1) := by decide +kernel
theorem dX4_behind_0 : decode cX4_behind 0 = .ok (.iload_n 1, 1) := by decide +kernel
theorem dX4_behind_1 : decode cX4_behind 1 = .ok (.iconst 0, 1) := by decide +kernel
theorem dX4_behind_2 : decode cX4_behind 2 = .ok (.bipush 11, 2) := by decide +kernel
theorem dX4_behind_4 : decode cX4_behind 4 = .ok (.invokestatic 34, 3) := by decide +kernel
theorem dX4_behind_7 : decode cX4_behind 7 = .ok (.ifCond .eq 5, 3) := by decide +kernel
theorem dX4_behind_10 : decode cX4_behind 10 = .ok (.iconst (-1), 1) := by decide +kernel
theorem dX4_behind_11 : decode cX4_behind 11 = .ok (.ireturn, 1) := by decide +kernel
theorem dX4_behind_12 : decode cX4_behind 12 = .ok (.aload_n 0, 1) := by decide +kernel
theorem dX4_behind_13 : decode cX4_behind 13 = .ok (.invokevirtual 97, 3) := by decide +kernel
theorem dX4_behind_16 : decode cX4_behind 16 = .ok (.ifCond .eq 18, 3) := by decide +kernel
theorem dX4_behind_19 : decode cX4_behind 19 = .ok (.aload_n 0, 1) := by decide +kernel
theorem dX4_behind_20 : decode cX4_behind 20 = .ok (.getfield 26, 3) := by decide +kernel
theorem dX4_behind_23 : decode cX4_behind 23 = .ok (.getfield 101, 3) := by decide +kernel
theorem dX4_behind_26 : decode cX4_behind 26 = .ok (.getfield 42, 3) := by decide +kernel
theorem dX4_behind_29 : decode cX4_behind 29 = .ok (.iload_n 1, 1) := by decide +kernel
theorem dX4_behind_30 : decode cX4_behind 30 = .ok (.iaload, 1) := by decide +kernel
theorem dX4_behind_31 : decode cX4_behind 31 = .ok (.goto 5, 3) := by decide +kernel
theorem dX4_behind_34 : decode cX4_behind 34 = .ok (.bipush (-5), 2) := by decide +kernel
theorem dX4_behind_36 : decode cX4_behind 36 = .ok (.ireturn, 1) := by decide +kernel
theorem dX4_then_0 : decode cX4_then 0 = .ok (.iload_n 1, 1) := by decide +kernel
theorem dX4_then_1 : decode cX4_then 1 = .ok (.iconst 0, 1) := by decide +kernel
theorem dX4_then_2 : decode cX4_then 2 = .ok (.iconst 2, 1) := by decide +kernel
theorem dX4_then_3 : decode cX4_then 3 = .ok (.invokestatic 34, 3) := by decide +kernel
theorem dX4_then_6 : decode cX4_then 6 = .ok (.ifCond .eq 6, 3) := by decide +kernel
theorem dX4_then_9 : decode cX4_then 9 = .ok (.bipush (-2), 2) := by decide +kernel
theorem dX4_then_11 : decode cX4_then 11 = .ok (.ireturn, 1) := by decide +kernel
theorem dX4_then_12 : decode cX4_then 12 = .ok (.aload_n 0, 1) := by decide +kernel
theorem dX4_then_13 : decode cX4_then 13 = .ok (.invokevirtual 97, 3) := by decide +kernel
theorem dX4_then_16 : decode cX4_then 16 = .ok (.ifCond .ne 6, 3) := by decide +kernel
theorem dX4_then_19 : decode cX4_then 19 = .ok (.bipush (-5), 2) := by decide +kernel
theorem dX4_then_21 : decode cX4_then 21 = .ok (.ireturn, 1) := by decide +kernel
theorem dX4_then_22 : decode cX4_then 22 = .ok (.iload_n 1, 1) := by decide +kernel
theorem dX4_then_23 : decode cX4_then 23 = .ok (.lookupswitch 47 #[(0, 25), (1, 36)], 25) := by decide +kernel
theorem dX4_then_48 : decode cX4_then 48 = .ok (.aload_n 0, 1) := by decide +kernel
theorem dX4_then_49 : decode cX4_then 49 = .ok (.getfield 26, 3) := by decide +kernel
theorem dX4_then_52 : decode cX4_then 52 = .ok (.getfield 101, 3) := by decide +kernel
theorem dX4_then_55 : decode cX4_then 55 = .ok (.invokevirtual 106, 3) := by decide +kernel
theorem dX4_then_58 : decode cX4_then 58 = .ok (.ireturn, 1) := by decide +kernel
theorem dX4_then_59 : decode cX4_then 59 = .ok (.aload_n 0, 1) := by decide +kernel
theorem dX4_then_60 : decode cX4_then 60 = .ok (.getfield 26, 3) := by decide +kernel
theorem dX4_then_63 : decode cX4_then 63 = .ok (.getfield 101, 3) := by decide +kernel
theorem dX4_then_66 : decode cX4_then 66 = .ok (.getfield 109, 3) := by decide +kernel
theorem dX4_then_69 : decode cX4_then 69 = .ok (.ireturn, 1) := by decide +kernel
theorem dX4_then_70 : decode cX4_then 70 = .ok (.aload_n 0, 1) := by decide +kernel
theorem dX4_then_71 : decode cX4_then 71 = .ok (.getfield 26, 3) := by decide +kernel
theorem dX4_then_74 : decode cX4_then 74 = .ok (.getfield 101, 3) := by decide +kernel
theorem dX4_then_77 : decode cX4_then 77 = .ok (.getfield 112, 3) := by decide +kernel
theorem dX4_then_80 : decode cX4_then 80 = .ok (.ireturn, 1) := by decide +kernel
theorem dX4_fell_0 : decode cX4_fell 0 = .ok (.iload_n 1, 1) := by decide +kernel
theorem dX4_fell_1 : decode cX4_fell 1 = .ok (.iconst 0, 1) := by decide +kernel
theorem dX4_fell_2 : decode cX4_fell 2 = .ok (.iconst 1, 1) := by decide +kernel
theorem dX4_fell_3 : decode cX4_fell 3 = .ok (.invokestatic 34, 3) := by decide +kernel
theorem dX4_fell_6 : decode cX4_fell 6 = .ok (.ifCond .eq 6, 3) := by decide +kernel
theorem dX4_fell_9 : decode cX4_fell 9 = .ok (.bipush (-2), 2) := by decide +kernel
theorem dX4_fell_11 : decode cX4_fell 11 = .ok (.ireturn, 1) := by decide +kernel
theorem dX4_fell_12 : decode cX4_fell 12 = .ok (.aload_n 0, 1) := by decide +kernel
theorem dX4_fell_13 : decode cX4_fell 13 = .ok (.invokevirtual 97, 3) := by decide +kernel
theorem dX4_fell_16 : decode cX4_fell 16 = .ok (.ifCond .ne 6, 3) := by decide +kernel
theorem dX4_fell_19 : decode cX4_fell 19 = .ok (.bipush (-5), 2) := by decide +kernel
theorem dX4_fell_21 : decode cX4_fell 21 = .ok (.ireturn, 1) := by decide +kernel
theorem dX4_fell_22 : decode cX4_fell 22 = .ok (.iload_n 1, 1) := by decide +kernel
theorem dX4_fell_23 : decode cX4_fell 23 = .ok (.ifCond .ne 13, 3) := by decide +kernel
theorem dX4_fell_26 : decode cX4_fell 26 = .ok (.aload_n 0, 1) := by decide +kernel
theorem dX4_fell_27 : decode cX4_fell 27 = .ok (.getfield 26, 3) := by decide +kernel
theorem dX4_fell_30 : decode cX4_fell 30 = .ok (.getfield 115, 3) := by decide +kernel
theorem dX4_fell_33 : decode cX4_fell 33 = .ok (.goto 10, 3) := by decide +kernel
theorem dX4_fell_36 : decode cX4_fell 36 = .ok (.aload_n 0, 1) := by decide +kernel
theorem dX4_fell_37 : decode cX4_fell 37 = .ok (.getfield 26, 3) := by decide +kernel
theorem dX4_fell_40 : decode cX4_fell 40 = .ok (.getfield 118, 3) := by decide +kernel
theorem dX4_fell_43 : decode cX4_fell 43 = .ok (.ireturn, 1) := by decide +kernel
theorem dX4_down_0 : decode cX4_down 0 = .ok (.aload_n 0, 1) := by decide +kernel
theorem dX4_down_1 : decode cX4_down 1 = .ok (.getfield 19, 3) := by decide +kernel
theorem dX4_down_4 : decode cX4_down 4 = .ok (.getfield 38, 3) := by decide +kernel
theorem dX4_down_7 : decode cX4_down 7 = .ok (.invokevirtual 106, 3) := by decide +kernel
theorem dX4_down_10 : decode cX4_down 10 = .ok (.ireturn, 1) := by decide +kernel
theorem dX4_shout_0 : decode cX4_shout 0 = .ok (.iload_n 1, 1) := by decide +kernel
theorem dX4_shout_1 : decode cX4_shout 1 = .ok (.iconst 1, 1) := by decide +kernel
theorem dX4_shout_2 : decode cX4_shout 2 = .ok (.bipush 12, 2) := by decide +kernel
theorem dX4_shout_4 : decode cX4_shout 4 = .ok (.invokestatic 34, 3) := by decide +kernel
theorem dX4_shout_7 : decode cX4_shout 7 = .ok (.ifCond .eq 8, 3) := by decide +kernel
theorem dX4_shout_10 : decode cX4_shout 10 = .ok (.bipush (-2), 2) := by decide +kernel
theorem dX4_shout_12 : decode cX4_shout 12 = .ok (.goto 14, 3) := by decide +kernel
theorem dX4_shout_15 : decode cX4_shout 15 = .ok (.aload_n 0, 1) := by decide +kernel
theorem dX4_shout_16 : decode cX4_shout 16 = .ok (.getfield 19, 3) := by decide +kernel
theorem dX4_shout_19 : decode cX4_shout 19 = .ok (.getfield 38, 3) := by decide +kernel
theorem dX4_shout_22 : decode cX4_shout 22 = .ok (.iload_n 1, 1) := by decide +kernel
theorem dX4_shout_23 : decode cX4_shout 23 = .ok (.invokevirtual 121, 3) := by decide +kernel
theorem dX4_shout_26 : decode cX4_shout 26 = .ok (.ireturn, 1) := by decide +kernel
theorem dX4_horns_0 : decode cX4_horns 0 = .ok (.iload_n 1, 1) := by decide +kernel
theorem dX4_horns_1 : decode cX4_horns 1 = .ok (.iconst 0, 1) := by decide +kernel
theorem dX4_horns_2 : decode cX4_horns 2 = .ok (.iconst 3, 1) := by decide +kernel
theorem dX4_horns_3 : decode cX4_horns 3 = .ok (.invokestatic 34, 3) := by decide +kernel
theorem dX4_horns_6 : decode cX4_horns 6 = .ok (.ifCond .ne 12, 3) := by decide +kernel
theorem dX4_horns_9 : decode cX4_horns 9 = .ok (.iload_n 2, 1) := by decide +kernel
theorem dX4_horns_10 : decode cX4_horns 10 = .ok (.iconst 0, 1) := by decide +kernel
theorem dX4_horns_11 : decode cX4_horns 11 = .ok (.iconst 1, 1) := by decide +kernel
theorem dX4_horns_12 : decode cX4_horns 12 = .ok (.invokestatic 34, 3) := by decide +kernel
theorem dX4_horns_15 : decode cX4_horns 15 = .ok (.ifCond .eq 6, 3) := by decide +kernel
theorem dX4_horns_18 : decode cX4_horns 18 = .ok (.bipush (-2), 2) := by decide +kernel
theorem dX4_horns_20 : decode cX4_horns 20 = .ok (.ireturn, 1) := by decide +kernel
theorem dX4_horns_21 : decode cX4_horns 21 = .ok (.aload_n 0, 1) := by decide +kernel
theorem dX4_horns_22 : decode cX4_horns 22 = .ok (.getfield 19, 3) := by decide +kernel
theorem dX4_horns_25 : decode cX4_horns 25 = .ok (.getfield 38, 3) := by decide +kernel
theorem dX4_horns_28 : decode cX4_horns 28 = .ok (.iload_n 1, 1) := by decide +kernel
theorem dX4_horns_29 : decode cX4_horns 29 = .ok (.invokevirtual 124, 3) := by decide +kernel
theorem dX4_horns_32 : decode cX4_horns 32 = .ok (.istore_n 3, 1) := by decide +kernel
theorem dX4_horns_33 : decode cX4_horns 33 = .ok (.iload_n 2, 1) := by decide +kernel
theorem dX4_horns_34 : decode cX4_horns 34 = .ok (.ifCond .ne 18, 3) := by decide +kernel
theorem dX4_horns_37 : decode cX4_horns 37 = .ok (.aload_n 0, 1) := by decide +kernel
theorem dX4_horns_38 : decode cX4_horns 38 = .ok (.getfield 19, 3) := by decide +kernel
theorem dX4_horns_41 : decode cX4_horns 41 = .ok (.getfield 38, 3) := by decide +kernel
theorem dX4_horns_44 : decode cX4_horns 44 = .ok (.iload_n 3, 1) := by decide +kernel
theorem dX4_horns_45 : decode cX4_horns 45 = .ok (.iload_n 1, 1) := by decide +kernel
theorem dX4_horns_46 : decode cX4_horns 46 = .ok (.invokevirtual 127, 3) := by decide +kernel
theorem dX4_horns_49 : decode cX4_horns 49 = .ok (.goto 4, 3) := by decide +kernel
theorem dX4_horns_52 : decode cX4_horns 52 = .ok (.iload_n 3, 1) := by decide +kernel
theorem dX4_horns_53 : decode cX4_horns 53 = .ok (.ireturn, 1) := by decide +kernel
theorem dX4_weakest_0 : decode cX4_weakest 0 = .ok (.iload_n 1, 1) := by decide +kernel
theorem dX4_weakest_1 : decode cX4_weakest 1 = .ok (.iconst 1, 1) := by decide +kernel
theorem dX4_weakest_2 : decode cX4_weakest 2 = .ok (.bipush 12, 2) := by decide +kernel
theorem dX4_weakest_4 : decode cX4_weakest 4 = .ok (.invokestatic 34, 3) := by decide +kernel
theorem dX4_weakest_7 : decode cX4_weakest 7 = .ok (.ifCond .ne 12, 3) := by decide +kernel
theorem dX4_weakest_10 : decode cX4_weakest 10 = .ok (.iload_n 2, 1) := by decide +kernel
theorem dX4_weakest_11 : decode cX4_weakest 11 = .ok (.iconst 0, 1) := by decide +kernel
theorem dX4_weakest_12 : decode cX4_weakest 12 = .ok (.iconst 1, 1) := by decide +kernel
theorem dX4_weakest_13 : decode cX4_weakest 13 = .ok (.invokestatic 34, 3) := by decide +kernel
theorem dX4_weakest_16 : decode cX4_weakest 16 = .ok (.ifCond .eq 6, 3) := by decide +kernel
theorem dX4_weakest_19 : decode cX4_weakest 19 = .ok (.bipush (-2), 2) := by decide +kernel
theorem dX4_weakest_21 : decode cX4_weakest 21 = .ok (.ireturn, 1) := by decide +kernel
theorem dX4_weakest_22 : decode cX4_weakest 22 = .ok (.aload_n 0, 1) := by decide +kernel
theorem dX4_weakest_23 : decode cX4_weakest 23 = .ok (.getfield 19, 3) := by decide +kernel
theorem dX4_weakest_26 : decode cX4_weakest 26 = .ok (.getfield 38, 3) := by decide +kernel
theorem dX4_weakest_29 : decode cX4_weakest 29 = .ok (.iload_n 1, 1) := by decide +kernel
theorem dX4_weakest_30 : decode cX4_weakest 30 = .ok (.invokevirtual 131, 3) := by decide +kernel
theorem dX4_weakest_33 : decode cX4_weakest 33 = .ok (.istore_n 3, 1) := by decide +kernel
theorem dX4_weakest_34 : decode cX4_weakest 34 = .ok (.iload_n 2, 1) := by decide +kernel
theorem dX4_weakest_35 : decode cX4_weakest 35 = .ok (.ifCond .ne 7, 3) := by decide +kernel
theorem dX4_weakest_38 : decode cX4_weakest 38 = .ok (.iload_n 3, 1) := by decide +kernel
theorem dX4_weakest_39 : decode cX4_weakest 39 = .ok (.goto 15, 3) := by decide +kernel
theorem dX4_weakest_42 : decode cX4_weakest 42 = .ok (.aload_n 0, 1) := by decide +kernel
theorem dX4_weakest_43 : decode cX4_weakest 43 = .ok (.getfield 19, 3) := by decide +kernel
theorem dX4_weakest_46 : decode cX4_weakest 46 = .ok (.getfield 38, 3) := by decide +kernel
theorem dX4_weakest_49 : decode cX4_weakest 49 = .ok (.iload_n 3, 1) := by decide +kernel
theorem dX4_weakest_50 : decode cX4_weakest 50 = .ok (.iload_n 1, 1) := by decide +kernel
theorem dX4_weakest_51 : decode cX4_weakest 51 = .ok (.invokevirtual 134, 3) := by decide +kernel
theorem dX4_weakest_54 : decode cX4_weakest 54 = .ok (.ireturn, 1) := by decide +kernel
theorem dX4_watch_0 : decode cX4_watch 0 = .ok (.iload_n 1, 1) := by decide +kernel
theorem dX4_watch_1 : decode cX4_watch 1 = .ok (.iconst 0, 1) := by decide +kernel
theorem dX4_watch_2 : decode cX4_watch 2 = .ok (.sipush 4095, 3) := by decide +kernel
theorem dX4_watch_5 : decode cX4_watch 5 = .ok (.invokestatic 34, 3) := by decide +kernel
theorem dX4_watch_8 : decode cX4_watch 8 = .ok (.ifCond .ne 21, 3) := by decide +kernel
theorem dX4_watch_11 : decode cX4_watch 11 = .ok (.iload_n 2, 1) := by decide +kernel
theorem dX4_watch_12 : decode cX4_watch 12 = .ok (.iconst 0, 1) := by decide +kernel
theorem dX4_watch_13 : decode cX4_watch 13 = .ok (.iconst 3, 1) := by decide +kernel
theorem dX4_watch_14 : decode cX4_watch 14 = .ok (.invokestatic 34, 3) := by decide +kernel
theorem dX4_watch_17 : decode cX4_watch 17 = .ok (.ifCond .ne 12, 3) := by decide +kernel
theorem dX4_watch_20 : decode cX4_watch 20 = .ok (.iload_n 3, 1) := by decide +kernel
theorem dX4_watch_21 : decode cX4_watch 21 = .ok (.iconst 0, 1) := by decide +kernel
theorem dX4_watch_22 : decode cX4_watch 22 = .ok (.iconst 1, 1) := by decide +kernel
theorem dX4_watch_23 : decode cX4_watch 23 = .ok (.invokestatic 34, 3) := by decide +kernel
theorem dX4_watch_26 : decode cX4_watch 26 = .ok (.ifCond .eq 6, 3) := by decide +kernel
theorem dX4_watch_29 : decode cX4_watch 29 = .ok (.bipush (-2), 2) := by decide +kernel
theorem dX4_watch_31 : decode cX4_watch 31 = .ok (.ireturn, 1) := by decide +kernel
theorem dX4_watch_32 : decode cX4_watch 32 = .ok (.iload_n 1, 1) := by decide +kernel
theorem dX4_watch_33 : decode cX4_watch 33 = .ok (.iload_n 2, 1) := by decide +kernel
theorem dX4_watch_34 : decode cX4_watch 34 = .ok (.invokestatic 137, 3) := by decide +kernel
theorem dX4_watch_37 : decode cX4_watch 37 = .ok (.istore 4, 2) := by decide +kernel
theorem dX4_watch_39 : decode cX4_watch 39 = .ok (.iload_n 3, 1) := by decide +kernel
theorem dX4_watch_40 : decode cX4_watch 40 = .ok (.ifCond .ne 11, 3) := by decide +kernel
theorem dX4_watch_43 : decode cX4_watch 43 = .ok (.iload 4, 2) := by decide +kernel
theorem dX4_watch_45 : decode cX4_watch 45 = .ok (.invokestatic 55, 3) := by decide +kernel
theorem dX4_watch_48 : decode cX4_watch 48 = .ok (.goto 5, 3) := by decide +kernel
theorem dX4_watch_51 : decode cX4_watch 51 = .ok (.iload 4, 2) := by decide +kernel
theorem dX4_watch_53 : decode cX4_watch 53 = .ok (.ireturn, 1) := by decide +kernel
theorem dX4_seen_0 : decode cX4_seen 0 = .ok (.iload_n 1, 1) := by decide +kernel
theorem dX4_seen_1 : decode cX4_seen 1 = .ok (.iconst 0, 1) := by decide +kernel
theorem dX4_seen_2 : decode cX4_seen 2 = .ok (.bipush 9, 2) := by decide +kernel
theorem dX4_seen_4 : decode cX4_seen 4 = .ok (.invokestatic 34, 3) := by decide +kernel
theorem dX4_seen_7 : decode cX4_seen 7 = .ok (.ifCond .ne 12, 3) := by decide +kernel
theorem dX4_seen_10 : decode cX4_seen 10 = .ok (.iload_n 2, 1) := by decide +kernel
theorem dX4_seen_11 : decode cX4_seen 11 = .ok (.iconst 0, 1) := by decide +kernel
theorem dX4_seen_12 : decode cX4_seen 12 = .ok (.iconst 2, 1) := by decide +kernel
theorem dX4_seen_13 : decode cX4_seen 13 = .ok (.invokestatic 34, 3) := by decide +kernel
theorem dX4_seen_16 : decode cX4_seen 16 = .ok (.ifCond .eq 6, 3) := by decide +kernel
theorem dX4_seen_19 : decode cX4_seen 19 = .ok (.bipush (-2), 2) := by decide +kernel
theorem dX4_seen_21 : decode cX4_seen 21 = .ok (.ireturn, 1) := by decide +kernel
theorem dX4_seen_22 : decode cX4_seen 22 = .ok (.aload_n 0, 1) := by decide +kernel
theorem dX4_seen_23 : decode cX4_seen 23 = .ok (.getfield 19, 3) := by decide +kernel
theorem dX4_seen_26 : decode cX4_seen 26 = .ok (.getfield 140, 3) := by decide +kernel
theorem dX4_seen_29 : decode cX4_seen 29 = .ok (.bipush 8, 2) := by decide +kernel
theorem dX4_seen_31 : decode cX4_seen 31 = .ok (.if_icmp .lt 6, 3) := by decide +kernel
theorem dX4_seen_34 : decode cX4_seen 34 = .ok (.bipush (-4), 2) := by decide +kernel
theorem dX4_seen_36 : decode cX4_seen 36 = .ok (.ireturn, 1) := by decide +kernel
theorem dX4_seen_37 : decode cX4_seen 37 = .ok (.aload_n 0, 1) := by decide +kernel
theorem dX4_seen_38 : decode cX4_seen 38 = .ok (.getfield 19, 3) := by decide +kernel
theorem dX4_seen_41 : decode cX4_seen 41 = .ok (.dup, 1) := by decide +kernel
theorem dX4_seen_42 : decode cX4_seen 42 = .ok (.getfield 140, 3) := by decide +kernel
theorem dX4_seen_45 : decode cX4_seen 45 = .ok (.iconst 1, 1) := by decide +kernel
theorem dX4_seen_46 : decode cX4_seen 46 = .ok (.iadd, 1) := by decide +kernel
theorem dX4_seen_47 : decode cX4_seen 47 = .ok (.putfield 140, 3) := by decide +kernel
theorem dX4_seen_50 : decode cX4_seen 50 = .ok (.aload_n 0, 1) := by decide +kernel
theorem dX4_seen_51 : decode cX4_seen 51 = .ok (.getfield 19, 3) := by decide +kernel
theorem dX4_seen_54 : decode cX4_seen 54 = .ok (.dup, 1) := by decide +kernel
theorem dX4_seen_55 : decode cX4_seen 55 = .ok (.getfield 143, 3) := by decide +kernel
theorem dX4_seen_58 : decode cX4_seen 58 = .ok (.iload_n 1, 1) := by decide +kernel
theorem dX4_seen_59 : decode cX4_seen 59 = .ok (.iload_n 2, 1) := by decide +kernel
theorem dX4_seen_60 : decode cX4_seen 60 = .ok (.invokestatic 146, 3) := by decide +kernel
theorem dX4_seen_63 : decode cX4_seen 63 = .ok (.iand, 1) := by decide +kernel
theorem dX4_seen_64 : decode cX4_seen 64 = .ok (.putfield 143, 3) := by decide +kernel
theorem dX4_seen_67 : decode cX4_seen 67 = .ok (.aload_n 0, 1) := by decide +kernel
theorem dX4_seen_68 : decode cX4_seen 68 = .ok (.getfield 19, 3) := by decide +kernel
theorem dX4_seen_71 : decode cX4_seen 71 = .ok (.getfield 140, 3) := by decide +kernel
theorem dX4_seen_74 : decode cX4_seen 74 = .ok (.ireturn, 1) := by decide +kernel
theorem dX4_forget_0 : decode cX4_forget 0 = .ok (.aload_n 0, 1) := by decide +kernel
theorem dX4_forget_1 : decode cX4_forget 1 = .ok (.getfield 19, 3) := by decide +kernel
theorem dX4_forget_4 : decode cX4_forget 4 = .ok (.getfield 140, 3) := by decide +kernel
theorem dX4_forget_7 : decode cX4_forget 7 = .ok (.istore_n 1, 1) := by decide +kernel
theorem dX4_forget_8 : decode cX4_forget 8 = .ok (.aload_n 0, 1) := by decide +kernel
theorem dX4_forget_9 : decode cX4_forget 9 = .ok (.getfield 19, 3) := by decide +kernel
theorem dX4_forget_12 : decode cX4_forget 12 = .ok (.iconst 0, 1) := by decide +kernel
theorem dX4_forget_13 : decode cX4_forget 13 = .ok (.putfield 140, 3) := by decide +kernel
theorem dX4_forget_16 : decode cX4_forget 16 = .ok (.aload_n 0, 1) := by decide +kernel
theorem dX4_forget_17 : decode cX4_forget 17 = .ok (.getfield 19, 3) := by decide +kernel
theorem dX4_forget_20 : decode cX4_forget 20 = .ok (.sipush 1023, 3) := by decide +kernel
theorem dX4_forget_23 : decode cX4_forget 23 = .ok (.putfield 143, 3) := by decide +kernel
theorem dX4_forget_26 : decode cX4_forget 26 = .ok (.iload_n 1, 1) := by decide +kernel
theorem dX4_forget_27 : decode cX4_forget 27 = .ok (.ireturn, 1) := by decide +kernel
theorem dX4_tones_0 : decode cX4_tones 0 = .ok (.aload_n 0, 1) := by decide +kernel
theorem dX4_tones_1 : decode cX4_tones 1 = .ok (.getfield 19, 3) := by decide +kernel
theorem dX4_tones_4 : decode cX4_tones 4 = .ok (.getfield 143, 3) := by decide +kernel
theorem dX4_tones_7 : decode cX4_tones 7 = .ok (.ireturn, 1) := by decide +kernel
theorem dX4_next_0 : decode cX4_next 0 = .ok (.iload_n 1, 1) := by decide +kernel
theorem dX4_next_1 : decode cX4_next 1 = .ok (.iconst 0, 1) := by decide +kernel
theorem dX4_next_2 : decode cX4_next 2 = .ok (.iconst 1, 1) := by decide +kernel
theorem dX4_next_3 : decode cX4_next 3 = .ok (.invokestatic 34, 3) := by decide +kernel
theorem dX4_next_6 : decode cX4_next 6 = .ok (.ifCond .eq 6, 3) := by decide +kernel
theorem dX4_next_9 : decode cX4_next 9 = .ok (.bipush (-2), 2) := by decide +kernel
theorem dX4_next_11 : decode cX4_next 11 = .ok (.ireturn, 1) := by decide +kernel
theorem dX4_next_12 : decode cX4_next 12 = .ok (.aload_n 0, 1) := by decide +kernel
theorem dX4_next_13 : decode cX4_next 13 = .ok (.getfield 19, 3) := by decide +kernel
theorem dX4_next_16 : decode cX4_next 16 = .ok (.getfield 143, 3) := by decide +kernel
theorem dX4_next_19 : decode cX4_next 19 = .ok (.ifCond .ne 6, 3) := by decide +kernel
theorem dX4_next_22 : decode cX4_next 22 = .ok (.bipush (-6), 2) := by decide +kernel
theorem dX4_next_24 : decode cX4_next 24 = .ok (.ireturn, 1) := by decide +kernel
theorem dX4_next_25 : decode cX4_next 25 = .ok (.aload_n 0, 1) := by decide +kernel
theorem dX4_next_26 : decode cX4_next 26 = .ok (.getfield 19, 3) := by decide +kernel
theorem dX4_next_29 : decode cX4_next 29 = .ok (.getfield 143, 3) := by decide +kernel
theorem dX4_next_32 : decode cX4_next 32 = .ok (.invokestatic 149, 3) := by decide +kernel
theorem dX4_next_35 : decode cX4_next 35 = .ok (.istore_n 2, 1) := by decide +kernel
theorem dX4_next_36 : decode cX4_next 36 = .ok (.iload_n 1, 1) := by decide +kernel
theorem dX4_next_37 : decode cX4_next 37 = .ok (.ifCond .ne 7, 3) := by decide +kernel
theorem dX4_next_40 : decode cX4_next 40 = .ok (.iload_n 2, 1) := by decide +kernel
theorem dX4_next_41 : decode cX4_next 41 = .ok (.goto 14, 3) := by decide +kernel
theorem dX4_next_44 : decode cX4_next 44 = .ok (.aload_n 0, 1) := by decide +kernel
theorem dX4_next_45 : decode cX4_next 45 = .ok (.getfield 19, 3) := by decide +kernel
theorem dX4_next_48 : decode cX4_next 48 = .ok (.getfield 143, 3) := by decide +kernel
theorem dX4_next_51 : decode cX4_next 51 = .ok (.iload_n 2, 1) := by decide +kernel
theorem dX4_next_52 : decode cX4_next 52 = .ok (.invokestatic 152, 3) := by decide +kernel
theorem dX4_next_55 : decode cX4_next 55 = .ok (.ireturn, 1) := by decide +kernel
theorem dX4_chain_0 : decode cX4_chain 0 = .ok (.iload_n 1, 1) := by decide +kernel
theorem dX4_chain_1 : decode cX4_chain 1 = .ok (.iconst 0, 1) := by decide +kernel
theorem dX4_chain_2 : decode cX4_chain 2 = .ok (.sipush 255, 3) := by decide +kernel
theorem dX4_chain_5 : decode cX4_chain 5 = .ok (.invokestatic 34, 3) := by decide +kernel
theorem dX4_chain_8 : decode cX4_chain 8 = .ok (.ifCond .eq 7, 3) := by decide +kernel
theorem dX4_chain_11 : decode cX4_chain 11 = .ok (.iconst (-1), 1) := by decide +kernel
theorem dX4_chain_12 : decode cX4_chain 12 = .ok (.goto 12, 3) := by decide +kernel
theorem dX4_chain_15 : decode cX4_chain 15 = .ok (.aload_n 0, 1) := by decide +kernel
theorem dX4_chain_16 : decode cX4_chain 16 = .ok (.getfield 19, 3) := by decide +kernel
theorem dX4_chain_19 : decode cX4_chain 19 = .ok (.iload_n 1, 1) := by decide +kernel
theorem dX4_chain_20 : decode cX4_chain 20 = .ok (.iconst 0, 1) := by decide +kernel
theorem dX4_chain_21 : decode cX4_chain 21 = .ok (.invokevirtual 155, 3) := by decide +kernel
theorem dX4_chain_24 : decode cX4_chain 24 = .ok (.ireturn, 1) := by decide +kernel
theorem dX4_quiet_0 : decode cX4_quiet 0 = .ok (.iload_n 1, 1) := by decide +kernel
theorem dX4_quiet_1 : decode cX4_quiet 1 = .ok (.iconst 0, 1) := by decide +kernel
theorem dX4_quiet_2 : decode cX4_quiet 2 = .ok (.sipush 255, 3) := by decide +kernel
theorem dX4_quiet_5 : decode cX4_quiet 5 = .ok (.invokestatic 34, 3) := by decide +kernel
theorem dX4_quiet_8 : decode cX4_quiet 8 = .ok (.ifCond .eq 5, 3) := by decide +kernel
theorem dX4_quiet_11 : decode cX4_quiet 11 = .ok (.iconst (-1), 1) := by decide +kernel
theorem dX4_quiet_12 : decode cX4_quiet 12 = .ok (.ireturn, 1) := by decide +kernel
theorem dX4_quiet_13 : decode cX4_quiet 13 = .ok (.iload_n 2, 1) := by decide +kernel
theorem dX4_quiet_14 : decode cX4_quiet 14 = .ok (.iconst 0, 1) := by decide +kernel
theorem dX4_quiet_15 : decode cX4_quiet 15 = .ok (.bipush 8, 2) := by decide +kernel
theorem dX4_quiet_17 : decode cX4_quiet 17 = .ok (.invokestatic 34, 3) := by decide +kernel
theorem dX4_quiet_20 : decode cX4_quiet 20 = .ok (.ifCond .ne 12, 3) := by decide +kernel
theorem dX4_quiet_23 : decode cX4_quiet 23 = .ok (.iload_n 3, 1) := by decide +kernel
theorem dX4_quiet_24 : decode cX4_quiet 24 = .ok (.iconst 0, 1) := by decide +kernel
theorem dX4_quiet_25 : decode cX4_quiet 25 = .ok (.iconst 1, 1) := by decide +kernel
theorem dX4_quiet_26 : decode cX4_quiet 26 = .ok (.invokestatic 34, 3) := by decide +kernel
theorem dX4_quiet_29 : decode cX4_quiet 29 = .ok (.ifCond .eq 6, 3) := by decide +kernel
theorem dX4_quiet_32 : decode cX4_quiet 32 = .ok (.bipush (-2), 2) := by decide +kernel
theorem dX4_quiet_34 : decode cX4_quiet 34 = .ok (.ireturn, 1) := by decide +kernel
theorem dX4_quiet_35 : decode cX4_quiet 35 = .ok (.aload_n 0, 1) := by decide +kernel
theorem dX4_quiet_36 : decode cX4_quiet 36 = .ok (.getfield 19, 3) := by decide +kernel
theorem dX4_quiet_39 : decode cX4_quiet 39 = .ok (.iload_n 1, 1) := by decide +kernel
theorem dX4_quiet_40 : decode cX4_quiet 40 = .ok (.iload_n 2, 1) := by decide +kernel
theorem dX4_quiet_41 : decode cX4_quiet 41 = .ok (.invokevirtual 158, 3) := by decide +kernel
theorem dX4_quiet_44 : decode cX4_quiet 44 = .ok (.istore 4, 2) := by decide +kernel
theorem dX4_quiet_46 : decode cX4_quiet 46 = .ok (.iload_n 3, 1) := by decide +kernel
theorem dX4_quiet_47 : decode cX4_quiet 47 = .ok (.ifCond .ne 18, 3) := by decide +kernel
theorem dX4_quiet_50 : decode cX4_quiet 50 = .ok (.iload 4, 2) := by decide +kernel
theorem dX4_quiet_52 : decode cX4_quiet 52 = .ok (.bipush (-6), 2) := by decide +kernel
theorem dX4_quiet_54 : decode cX4_quiet 54 = .ok (.if_icmp .eq 11, 3) := by decide +kernel
theorem dX4_quiet_57 : decode cX4_quiet 57 = .ok (.iload 4, 2) := by decide +kernel
theorem dX4_quiet_59 : decode cX4_quiet 59 = .ok (.invokestatic 55, 3) := by decide +kernel
theorem dX4_quiet_62 : decode cX4_quiet 62 = .ok (.goto 5, 3) := by decide +kernel
theorem dX4_quiet_65 : decode cX4_quiet 65 = .ok (.iload 4, 2) := by decide +kernel
theorem dX4_quiet_67 : decode cX4_quiet 67 = .ok (.ireturn, 1) := by decide +kernel
theorem dX4_water_0 : decode cX4_water 0 = .ok (.iload_n 1, 1) := by decide +kernel
theorem dX4_water_1 : decode cX4_water 1 = .ok (.iconst 0, 1) := by decide +kernel
theorem dX4_water_2 : decode cX4_water 2 = .ok (.bipush 9, 2) := by decide +kernel
theorem dX4_water_4 : decode cX4_water 4 = .ok (.invokestatic 34, 3) := by decide +kernel
theorem dX4_water_7 : decode cX4_water 7 = .ok (.ifCond .ne 32, 3) := by decide +kernel
theorem dX4_water_10 : decode cX4_water 10 = .ok (.iload_n 2, 1) := by decide +kernel
theorem dX4_water_11 : decode cX4_water 11 = .ok (.iconst 0, 1) := by decide +kernel
theorem dX4_water_12 : decode cX4_water 12 = .ok (.bipush 10, 2) := by decide +kernel
theorem dX4_water_14 : decode cX4_water 14 = .ok (.invokestatic 34, 3) := by decide +kernel
theorem dX4_water_17 : decode cX4_water 17 = .ok (.ifCond .ne 22, 3) := by decide +kernel
theorem dX4_water_20 : decode cX4_water 20 = .ok (.iload_n 3, 1) := by decide +kernel
theorem dX4_water_21 : decode cX4_water 21 = .ok (.iconst 0, 1) := by decide +kernel
theorem dX4_water_22 : decode cX4_water 22 = .ok (.iconst 1, 1) := by decide +kernel
theorem dX4_water_23 : decode cX4_water 23 = .ok (.invokestatic 34, 3) := by decide +kernel
theorem dX4_water_26 : decode cX4_water 26 = .ok (.ifCond .ne 13, 3) := by decide +kernel
theorem dX4_water_29 : decode cX4_water 29 = .ok (.iload 4, 2) := by decide +kernel
theorem dX4_water_31 : decode cX4_water 31 = .ok (.iconst 0, 1) := by decide +kernel
theorem dX4_water_32 : decode cX4_water 32 = .ok (.iconst 1, 1) := by decide +kernel
theorem dX4_water_33 : decode cX4_water 33 = .ok (.invokestatic 34, 3) := by decide +kernel
theorem dX4_water_36 : decode cX4_water 36 = .ok (.ifCond .eq 7, 3) := by decide +kernel
theorem dX4_water_39 : decode cX4_water 39 = .ok (.ldc2_w 161, 3) := by decide +kernel
theorem dX4_water_42 : decode cX4_water 42 = .ok (.lreturn, 1) := by decide +kernel
theorem dX4_water_43 : decode cX4_water 43 = .ok (.iload_n 1, 1) := by decide +kernel
theorem dX4_water_44 : decode cX4_water 44 = .ok (.invokestatic 163, 3) := by decide +kernel
theorem dX4_water_47 : decode cX4_water 47 = .ok (.i2l, 1) := by decide +kernel
theorem dX4_water_48 : decode cX4_water 48 = .ok (.lstore 5, 2) := by decide +kernel
theorem dX4_water_50 : decode cX4_water 50 = .ok (.iload_n 1, 1) := by decide +kernel
theorem dX4_water_51 : decode cX4_water 51 = .ok (.iload_n 2, 1) := by decide +kernel
theorem dX4_water_52 : decode cX4_water 52 = .ok (.invokestatic 166, 3) := by decide +kernel
theorem dX4_water_55 : decode cX4_water 55 = .ok (.lstore 7, 2) := by decide +kernel
theorem dX4_water_57 : decode cX4_water 57 = .ok (.iload_n 3, 1) := by decide +kernel
theorem dX4_water_58 : decode cX4_water 58 = .ok (.iconst 1, 1) := by decide +kernel
theorem dX4_water_59 : decode cX4_water 59 = .ok (.if_icmp .ne 23, 3) := by decide +kernel
theorem dX4_water_62 : decode cX4_water 62 = .ok (.lload 7, 2) := by decide +kernel
theorem dX4_water_64 : decode cX4_water 64 = .ok (.bipush 10, 2) := by decide +kernel
theorem dX4_water_66 : decode cX4_water 66 = .ok (.iload_n 1, 1) := by decide +kernel
theorem dX4_water_67 : decode cX4_water 67 = .ok (.imul, 1) := by decide +kernel
theorem dX4_water_68 : decode cX4_water 68 = .ok (.i2l, 1) := by decide +kernel
theorem dX4_water_69 : decode cX4_water 69 = .ok (.lload 5, 2) := by decide +kernel
theorem dX4_water_71 : decode cX4_water 71 = .ok (.lmul, 1) := by decide +kernel
theorem dX4_water_72 : decode cX4_water 72 = .ok (.lcmp, 1) := by decide +kernel
theorem dX4_water_73 : decode cX4_water 73 = .ok (.ifCond .ne 7, 3) := by decide +kernel
theorem dX4_water_76 : decode cX4_water 76 = .ok (.lconst 1, 1) := by decide +kernel
theorem dX4_water_77 : decode cX4_water 77 = .ok (.goto 4, 3) := by decide +kernel
theorem dX4_water_80 : decode cX4_water 80 = .ok (.lconst 0, 1) := by decide +kernel
theorem dX4_water_81 : decode cX4_water 81 = .ok (.lreturn, 1) := by decide +kernel
theorem dX4_water_82 : decode cX4_water 82 = .ok (.lload 5, 2) := by decide +kernel
theorem dX4_water_84 : decode cX4_water 84 = .ok (.lload 7, 2) := by decide +kernel
theorem dX4_water_86 : decode cX4_water 86 = .ok (.invokestatic 170, 3) := by decide +kernel
theorem dX4_water_89 : decode cX4_water 89 = .ok (.lstore 9, 2) := by decide +kernel
theorem dX4_water_91 : decode cX4_water 91 = .ok (.iload 4, 2) := by decide +kernel
theorem dX4_water_93 : decode cX4_water 93 = .ok (.ifCond .ne 8, 3) := by decide +kernel
theorem dX4_water_96 : decode cX4_water 96 = .ok (.lload 7, 2) := by decide +kernel
theorem dX4_water_98 : decode cX4_water 98 = .ok (.goto 5, 3) := by decide +kernel
theorem dX4_water_101 : decode cX4_water 101 = .ok (.lload 5, 2) := by decide +kernel
theorem dX4_water_103 : decode cX4_water 103 = .ok (.lload 9, 2) := by decide +kernel
theorem dX4_water_105 : decode cX4_water 105 = .ok (.ldiv, 1) := by decide +kernel
theorem dX4_water_106 : decode cX4_water 106 = .ok (.lreturn, 1) := by decide +kernel
theorem dX4_lots_0 : decode cX4_lots 0 = .ok (.iload_n 1, 1) := by decide +kernel
theorem dX4_lots_1 : decode cX4_lots 1 = .ok (.iconst 1, 1) := by decide +kernel
theorem dX4_lots_2 : decode cX4_lots 2 = .ok (.bipush 20, 2) := by decide +kernel
theorem dX4_lots_4 : decode cX4_lots 4 = .ok (.invokestatic 34, 3) := by decide +kernel
theorem dX4_lots_7 : decode cX4_lots 7 = .ok (.ifCond .ne 33, 3) := by decide +kernel
theorem dX4_lots_10 : decode cX4_lots 10 = .ok (.iload_n 2, 1) := by decide +kernel
theorem dX4_lots_11 : decode cX4_lots 11 = .ok (.iconst 1, 1) := by decide +kernel
theorem dX4_lots_12 : decode cX4_lots 12 = .ok (.bipush 20, 2) := by decide +kernel
theorem dX4_lots_14 : decode cX4_lots 14 = .ok (.invokestatic 34, 3) := by decide +kernel
theorem dX4_lots_17 : decode cX4_lots 17 = .ok (.ifCond .ne 23, 3) := by decide +kernel
theorem dX4_lots_20 : decode cX4_lots 20 = .ok (.iload_n 3, 1) := by decide +kernel
theorem dX4_lots_21 : decode cX4_lots 21 = .ok (.iconst 1, 1) := by decide +kernel
theorem dX4_lots_22 : decode cX4_lots 22 = .ok (.bipush 20, 2) := by decide +kernel
theorem dX4_lots_24 : decode cX4_lots 24 = .ok (.invokestatic 34, 3) := by decide +kernel
theorem dX4_lots_27 : decode cX4_lots 27 = .ok (.ifCond .ne 13, 3) := by decide +kernel
theorem dX4_lots_30 : decode cX4_lots 30 = .ok (.iload 4, 2) := by decide +kernel
theorem dX4_lots_32 : decode cX4_lots 32 = .ok (.iconst 0, 1) := by decide +kernel
theorem dX4_lots_33 : decode cX4_lots 33 = .ok (.iconst 1, 1) := by decide +kernel
theorem dX4_lots_34 : decode cX4_lots 34 = .ok (.invokestatic 34, 3) := by decide +kernel
theorem dX4_lots_37 : decode cX4_lots 37 = .ok (.ifCond .eq 6, 3) := by decide +kernel
theorem dX4_lots_40 : decode cX4_lots 40 = .ok (.bipush (-2), 2) := by decide +kernel
theorem dX4_lots_42 : decode cX4_lots 42 = .ok (.ireturn, 1) := by decide +kernel
theorem dX4_lots_43 : decode cX4_lots 43 = .ok (.iload 4, 2) := by decide +kernel
theorem dX4_lots_45 : decode cX4_lots 45 = .ok (.ifCond .ne 14, 3) := by decide +kernel
theorem dX4_lots_48 : decode cX4_lots 48 = .ok (.iload_n 1, 1) := by decide +kernel
theorem dX4_lots_49 : decode cX4_lots 49 = .ok (.iload_n 2, 1) := by decide +kernel
theorem dX4_lots_50 : decode cX4_lots 50 = .ok (.imul, 1) := by decide +kernel
theorem dX4_lots_51 : decode cX4_lots 51 = .ok (.iload_n 3, 1) := by decide +kernel
theorem dX4_lots_52 : decode cX4_lots 52 = .ok (.imul, 1) := by decide +kernel
theorem dX4_lots_53 : decode cX4_lots 53 = .ok (.invokestatic 174, 3) := by decide +kernel
theorem dX4_lots_56 : decode cX4_lots 56 = .ok (.goto 17, 3) := by decide +kernel
theorem dX4_lots_59 : decode cX4_lots 59 = .ok (.iload_n 1, 1) := by decide +kernel
theorem dX4_lots_60 : decode cX4_lots 60 = .ok (.invokestatic 174, 3) := by decide +kernel
theorem dX4_lots_63 : decode cX4_lots 63 = .ok (.iload_n 2, 1) := by decide +kernel
theorem dX4_lots_64 : decode cX4_lots 64 = .ok (.invokestatic 174, 3) := by decide +kernel
theorem dX4_lots_67 : decode cX4_lots 67 = .ok (.iadd, 1) := by decide +kernel
theorem dX4_lots_68 : decode cX4_lots 68 = .ok (.iload_n 3, 1) := by decide +kernel
theorem dX4_lots_69 : decode cX4_lots 69 = .ok (.invokestatic 174, 3) := by decide +kernel
theorem dX4_lots_72 : decode cX4_lots 72 = .ok (.iadd, 1) := by decide +kernel
theorem dX4_lots_73 : decode cX4_lots 73 = .ok (.ireturn, 1) := by decide +kernel
theorem dX4_day_0 : decode cX4_day 0 = .ok (.iload_n 1, 1) := by decide +kernel
theorem dX4_day_1 : decode cX4_day 1 = .ok (.iconst 0, 1) := by decide +kernel
theorem dX4_day_2 : decode cX4_day 2 = .ok (.sipush 9999, 3) := by decide +kernel
theorem dX4_day_5 : decode cX4_day 5 = .ok (.invokestatic 34, 3) := by decide +kernel
theorem dX4_day_8 : decode cX4_day 8 = .ok (.ifCond .ne 22, 3) := by decide +kernel
theorem dX4_day_11 : decode cX4_day 11 = .ok (.iload_n 2, 1) := by decide +kernel
theorem dX4_day_12 : decode cX4_day 12 = .ok (.iconst 1, 1) := by decide +kernel
theorem dX4_day_13 : decode cX4_day 13 = .ok (.bipush 99, 2) := by decide +kernel
theorem dX4_day_15 : decode cX4_day 15 = .ok (.invokestatic 34, 3) := by decide +kernel
theorem dX4_day_18 : decode cX4_day 18 = .ok (.ifCond .ne 12, 3) := by decide +kernel
theorem dX4_day_21 : decode cX4_day 21 = .ok (.iload_n 3, 1) := by decide +kernel
theorem dX4_day_22 : decode cX4_day 22 = .ok (.iconst 0, 1) := by decide +kernel
theorem dX4_day_23 : decode cX4_day 23 = .ok (.iconst 2, 1) := by decide +kernel
theorem dX4_day_24 : decode cX4_day 24 = .ok (.invokestatic 34, 3) := by decide +kernel
theorem dX4_day_27 : decode cX4_day 27 = .ok (.ifCond .eq 6, 3) := by decide +kernel
theorem dX4_day_30 : decode cX4_day 30 = .ok (.bipush (-2), 2) := by decide +kernel
theorem dX4_day_32 : decode cX4_day 32 = .ok (.ireturn, 1) := by decide +kernel
theorem dX4_day_33 : decode cX4_day 33 = .ok (.aload_n 0, 1) := by decide +kernel
theorem dX4_day_34 : decode cX4_day 34 = .ok (.getfield 26, 3) := by decide +kernel
theorem dX4_day_37 : decode cX4_day 37 = .ok (.getfield 101, 3) := by decide +kernel
theorem dX4_day_40 : decode cX4_day 40 = .ok (.astore 4, 2) := by decide +kernel
theorem dX4_day_42 : decode cX4_day 42 = .ok (.aload 4, 2) := by decide +kernel
theorem dX4_day_44 : decode cX4_day 44 = .ok (.aload_n 0, 1) := by decide +kernel
theorem dX4_day_45 : decode cX4_day 45 = .ok (.getfield 19, 3) := by decide +kernel
theorem dX4_day_48 : decode cX4_day 48 = .ok (.getfield 38, 3) := by decide +kernel
theorem dX4_day_51 : decode cX4_day 51 = .ok (.invokevirtual 102, 3) := by decide +kernel
theorem dX4_day_54 : decode cX4_day 54 = .ok (.aload 4, 2) := by decide +kernel
theorem dX4_day_56 : decode cX4_day 56 = .ok (.iload_n 1, 1) := by decide +kernel
theorem dX4_day_57 : decode cX4_day 57 = .ok (.iload_n 2, 1) := by decide +kernel
theorem dX4_day_58 : decode cX4_day 58 = .ok (.invokevirtual 177, 3) := by decide +kernel
theorem dX4_day_61 : decode cX4_day 61 = .ok (.iload_n 3, 1) := by decide +kernel
theorem dX4_day_62 : decode cX4_day 62 = .ok (.lookupswitch 41 #[(0, 26), (1, 35)], 26) := by decide +kernel
theorem dX4_day_88 : decode cX4_day 88 = .ok (.aload 4, 2) := by decide +kernel
theorem dX4_day_90 : decode cX4_day 90 = .ok (.invokevirtual 106, 3) := by decide +kernel
theorem dX4_day_93 : decode cX4_day 93 = .ok (.invokestatic 55, 3) := by decide +kernel
theorem dX4_day_96 : decode cX4_day 96 = .ok (.ireturn, 1) := by decide +kernel
theorem dX4_day_97 : decode cX4_day 97 = .ok (.aload 4, 2) := by decide +kernel
theorem dX4_day_99 : decode cX4_day 99 = .ok (.getfield 109, 3) := by decide +kernel
theorem dX4_day_102 : decode cX4_day 102 = .ok (.ireturn, 1) := by decide +kernel
theorem dX4_day_103 : decode cX4_day 103 = .ok (.aload 4, 2) := by decide +kernel
theorem dX4_day_105 : decode cX4_day 105 = .ok (.getfield 112, 3) := by decide +kernel
theorem dX4_day_108 : decode cX4_day 108 = .ok (.ireturn, 1) := by decide +kernel
theorem dX4_image_0 : decode cX4_image 0 = .ok (.iload_n 1, 1) := by decide +kernel
theorem dX4_image_1 : decode cX4_image 1 = .ok (.iconst 0, 1) := by decide +kernel
theorem dX4_image_2 : decode cX4_image 2 = .ok (.iconst 1, 1) := by decide +kernel
theorem dX4_image_3 : decode cX4_image 3 = .ok (.invokestatic 34, 3) := by decide +kernel
theorem dX4_image_6 : decode cX4_image 6 = .ok (.ifCond .eq 6, 3) := by decide +kernel
theorem dX4_image_9 : decode cX4_image 9 = .ok (.bipush (-2), 2) := by decide +kernel
theorem dX4_image_11 : decode cX4_image 11 = .ok (.ireturn, 1) := by decide +kernel
theorem dX4_image_12 : decode cX4_image 12 = .ok (.aload_n 0, 1) := by decide +kernel
theorem dX4_image_13 : decode cX4_image 13 = .ok (.getfield 30, 3) := by decide +kernel
theorem dX4_image_16 : decode cX4_image 16 = .ok (.iload_n 1, 1) := by decide +kernel
theorem dX4_image_17 : decode cX4_image 17 = .ok (.aaload, 1) := by decide +kernel
theorem dX4_image_18 : decode cX4_image 18 = .ok (.astore_n 2, 1) := by decide +kernel
theorem dX4_image_19 : decode cX4_image 19 = .ok (.aload_n 2, 1) := by decide +kernel
theorem dX4_image_20 : decode cX4_image 20 = .ok (.ifnonnull 18, 3) := by decide +kernel
theorem dX4_image_23 : decode cX4_image 23 = .ok (.new 16, 3) := by decide +kernel
theorem dX4_image_26 : decode cX4_image 26 = .ok (.dup, 1) := by decide +kernel
theorem dX4_image_27 : decode cX4_image 27 = .ok (.invokespecial 18, 3) := by decide +kernel
theorem dX4_image_30 : decode cX4_image 30 = .ok (.astore_n 2, 1) := by decide +kernel
theorem dX4_image_31 : decode cX4_image 31 = .ok (.aload_n 0, 1) := by decide +kernel
theorem dX4_image_32 : decode cX4_image 32 = .ok (.getfield 30, 3) := by decide +kernel
theorem dX4_image_35 : decode cX4_image 35 = .ok (.iload_n 1, 1) := by decide +kernel
theorem dX4_image_36 : decode cX4_image 36 = .ok (.aload_n 2, 1) := by decide +kernel
theorem dX4_image_37 : decode cX4_image 37 = .ok (.aastore, 1) := by decide +kernel
theorem dX4_image_38 : decode cX4_image 38 = .ok (.aload_n 2, 1) := by decide +kernel
theorem dX4_image_39 : decode cX4_image 39 = .ok (.aload_n 0, 1) := by decide +kernel
theorem dX4_image_40 : decode cX4_image 40 = .ok (.getfield 19, 3) := by decide +kernel
theorem dX4_image_43 : decode cX4_image 43 = .ok (.invokevirtual 181, 3) := by decide +kernel
theorem dX4_image_46 : decode cX4_image 46 = .ok (.iconst 1, 1) := by decide +kernel
theorem dX4_image_47 : decode cX4_image 47 = .ok (.ireturn, 1) := by decide +kernel
theorem dX4_restore_0 : decode cX4_restore 0 = .ok (.iload_n 1, 1) := by decide +kernel
theorem dX4_restore_1 : decode cX4_restore 1 = .ok (.iconst 0, 1) := by decide +kernel
theorem dX4_restore_2 : decode cX4_restore 2 = .ok (.iconst 1, 1) := by decide +kernel
theorem dX4_restore_3 : decode cX4_restore 3 = .ok (.invokestatic 34, 3) := by decide +kernel
theorem dX4_restore_6 : decode cX4_restore 6 = .ok (.ifCond .eq 6, 3) := by decide +kernel
theorem dX4_restore_9 : decode cX4_restore 9 = .ok (.bipush (-2), 2) := by decide +kernel
theorem dX4_restore_11 : decode cX4_restore 11 = .ok (.ireturn, 1) := by decide +kernel
theorem dX4_restore_12 : decode cX4_restore 12 = .ok (.aload_n 0, 1) := by decide +kernel
theorem dX4_restore_13 : decode cX4_restore 13 = .ok (.getfield 30, 3) := by decide +kernel
theorem dX4_restore_16 : decode cX4_restore 16 = .ok (.iload_n 1, 1) := by decide +kernel
theorem dX4_restore_17 : decode cX4_restore 17 = .ok (.aaload, 1) := by decide +kernel
theorem dX4_restore_18 : decode cX4_restore 18 = .ok (.astore_n 2, 1) := by decide +kernel
theorem dX4_restore_19 : decode cX4_restore 19 = .ok (.aload_n 2, 1) := by decide +kernel
theorem dX4_restore_20 : decode cX4_restore 20 = .ok (.ifnonnull 6, 3) := by decide +kernel
theorem dX4_restore_23 : decode cX4_restore 23 = .ok (.bipush (-3), 2) := by decide +kernel
theorem dX4_restore_25 : decode cX4_restore 25 = .ok (.ireturn, 1) := by decide +kernel
theorem dX4_restore_26 : decode cX4_restore 26 = .ok (.aload_n 0, 1) := by decide +kernel
theorem dX4_restore_27 : decode cX4_restore 27 = .ok (.getfield 19, 3) := by decide +kernel
theorem dX4_restore_30 : decode cX4_restore 30 = .ok (.aload_n 2, 1) := by decide +kernel
theorem dX4_restore_31 : decode cX4_restore 31 = .ok (.invokevirtual 181, 3) := by decide +kernel
theorem dX4_restore_34 : decode cX4_restore 34 = .ok (.iconst 1, 1) := by decide +kernel
theorem dX4_restore_35 : decode cX4_restore 35 = .ok (.ireturn, 1) := by decide +kernel
theorem dX4_told_0 : decode cX4_told 0 = .ok (.iload_n 1, 1) := by decide +kernel
theorem dX4_told_1 : decode cX4_told 1 = .ok (.bipush 10, 2) := by decide +kernel
theorem dX4_told_3 : decode cX4_told 3 = .ok (.bipush 21, 2) := by decide +kernel
theorem dX4_told_5 : decode cX4_told 5 = .ok (.invokestatic 34, 3) := by decide +kernel
theorem dX4_told_8 : decode cX4_told 8 = .ok (.ifCond .ne 19, 3) := by decide +kernel
theorem dX4_told_11 : decode cX4_told 11 = .ok (.aload_n 0, 1) := by decide +kernel
theorem dX4_told_12 : decode cX4_told 12 = .ok (.getfield 19, 3) := by decide +kernel
theorem dX4_told_15 : decode cX4_told 15 = .ok (.getfield 38, 3) := by decide +kernel
theorem dX4_told_18 : decode cX4_told 18 = .ok (.getfield 42, 3) := by decide +kernel
theorem dX4_told_21 : decode cX4_told 21 = .ok (.iload_n 1, 1) := by decide +kernel
theorem dX4_told_22 : decode cX4_told 22 = .ok (.bipush 10, 2) := by decide +kernel
theorem dX4_told_24 : decode cX4_told 24 = .ok (.isub, 1) := by decide +kernel
theorem dX4_told_25 : decode cX4_told 25 = .ok (.iaload, 1) := by decide +kernel
theorem dX4_told_26 : decode cX4_told 26 = .ok (.ireturn, 1) := by decide +kernel
theorem dX4_told_27 : decode cX4_told 27 = .ok (.iload_n 1, 1) := by decide +kernel
theorem dX4_told_28 : decode cX4_told 28 = .ok (.bipush 30, 2) := by decide +kernel
theorem dX4_told_30 : decode cX4_told 30 = .ok (.bipush 41, 2) := by decide +kernel
theorem dX4_told_32 : decode cX4_told 32 = .ok (.invokestatic 34, 3) := by decide +kernel
theorem dX4_told_35 : decode cX4_told 35 = .ok (.ifCond .ne 19, 3) := by decide +kernel
theorem dX4_told_38 : decode cX4_told 38 = .ok (.aload_n 0, 1) := by decide +kernel
theorem dX4_told_39 : decode cX4_told 39 = .ok (.getfield 19, 3) := by decide +kernel
theorem dX4_told_42 : decode cX4_told 42 = .ok (.getfield 38, 3) := by decide +kernel
theorem dX4_told_45 : decode cX4_told 45 = .ok (.getfield 48, 3) := by decide +kernel
theorem dX4_told_48 : decode cX4_told 48 = .ok (.iload_n 1, 1) := by decide +kernel
theorem dX4_told_49 : decode cX4_told 49 = .ok (.bipush 30, 2) := by decide +kernel
theorem dX4_told_51 : decode cX4_told 51 = .ok (.isub, 1) := by decide +kernel
theorem dX4_told_52 : decode cX4_told 52 = .ok (.iaload, 1) := by decide +kernel
theorem dX4_told_53 : decode cX4_told 53 = .ok (.ireturn, 1) := by decide +kernel
theorem dX4_told_54 : decode cX4_told 54 = .ok (.iload_n 1, 1) := by decide +kernel
theorem dX4_told_55 : decode cX4_told 55 = .ok (.bipush 50, 2) := by decide +kernel
theorem dX4_told_57 : decode cX4_told 57 = .ok (.bipush 57, 2) := by decide +kernel
theorem dX4_told_59 : decode cX4_told 59 = .ok (.invokestatic 34, 3) := by decide +kernel
theorem dX4_told_62 : decode cX4_told 62 = .ok (.ifCond .ne 16, 3) := by decide +kernel
theorem dX4_told_65 : decode cX4_told 65 = .ok (.aload_n 0, 1) := by decide +kernel
theorem dX4_told_66 : decode cX4_told 66 = .ok (.getfield 19, 3) := by decide +kernel
theorem dX4_told_69 : decode cX4_told 69 = .ok (.getfield 70, 3) := by decide +kernel
theorem dX4_told_72 : decode cX4_told 72 = .ok (.iload_n 1, 1) := by decide +kernel
theorem dX4_told_73 : decode cX4_told 73 = .ok (.bipush 50, 2) := by decide +kernel
theorem dX4_told_75 : decode cX4_told 75 = .ok (.isub, 1) := by decide +kernel
theorem dX4_told_76 : decode cX4_told 76 = .ok (.iaload, 1) := by decide +kernel
theorem dX4_told_77 : decode cX4_told 77 = .ok (.ireturn, 1) := by decide +kernel
theorem dX4_told_78 : decode cX4_told 78 = .ok (.iload_n 1, 1) := by decide +kernel
theorem dX4_told_79 : decode cX4_told 79 = .ok (.tableswitch 97 0 5 #[37, 45, 56, 67, 78, 89], 37) := by decide +kernel
theorem dX4_told_116 : decode cX4_told 116 = .ok (.aload_n 0, 1) := by decide +kernel
theorem dX4_told_117 : decode cX4_told 117 = .ok (.getfield 10, 3) := by decide +kernel
theorem dX4_told_120 : decode cX4_told 120 = .ok (.getfield 77, 3) := by decide +kernel
theorem dX4_told_123 : decode cX4_told 123 = .ok (.ireturn, 1) := by decide +kernel
theorem dX4_told_124 : decode cX4_told 124 = .ok (.aload_n 0, 1) := by decide +kernel
theorem dX4_told_125 : decode cX4_told 125 = .ok (.getfield 19, 3) := by decide +kernel
theorem dX4_told_128 : decode cX4_told 128 = .ok (.getfield 38, 3) := by decide +kernel
theorem dX4_told_131 : decode cX4_told 131 = .ok (.getfield 112, 3) := by decide +kernel
theorem dX4_told_134 : decode cX4_told 134 = .ok (.ireturn, 1) := by decide +kernel
theorem dX4_told_135 : decode cX4_told 135 = .ok (.aload_n 0, 1) := by decide +kernel
theorem dX4_told_136 : decode cX4_told 136 = .ok (.getfield 19, 3) := by decide +kernel
theorem dX4_told_139 : decode cX4_told 139 = .ok (.getfield 38, 3) := by decide +kernel
theorem dX4_told_142 : decode cX4_told 142 = .ok (.getfield 109, 3) := by decide +kernel
theorem dX4_told_145 : decode cX4_told 145 = .ok (.ireturn, 1) := by decide +kernel
theorem dX4_told_146 : decode cX4_told 146 = .ok (.aload_n 0, 1) := by decide +kernel
theorem dX4_told_147 : decode cX4_told 147 = .ok (.getfield 19, 3) := by decide +kernel
theorem dX4_told_150 : decode cX4_told 150 = .ok (.getfield 38, 3) := by decide +kernel
theorem dX4_told_153 : decode cX4_told 153 = .ok (.getfield 184, 3) := by decide +kernel
theorem dX4_told_156 : decode cX4_told 156 = .ok (.ireturn, 1) := by decide +kernel
theorem dX4_told_157 : decode cX4_told 157 = .ok (.aload_n 0, 1) := by decide +kernel
theorem dX4_told_158 : decode cX4_told 158 = .ok (.getfield 19, 3) := by decide +kernel
theorem dX4_told_161 : decode cX4_told 161 = .ok (.getfield 38, 3) := by decide +kernel
theorem dX4_told_164 : decode cX4_told 164 = .ok (.getfield 51, 3) := by decide +kernel
theorem dX4_told_167 : decode cX4_told 167 = .ok (.ireturn, 1) := by decide +kernel
theorem dX4_told_168 : decode cX4_told 168 = .ok (.aload_n 0, 1) := by decide +kernel
theorem dX4_told_169 : decode cX4_told 169 = .ok (.getfield 19, 3) := by decide +kernel
theorem dX4_told_172 : decode cX4_told 172 = .ok (.getfield 140, 3) := by decide +kernel
theorem dX4_told_175 : decode cX4_told 175 = .ok (.ireturn, 1) := by decide +kernel
theorem dX4_told_176 : decode cX4_told 176 = .ok (.bipush (-2), 2) := by decide +kernel
theorem dX4_told_178 : decode cX4_told 178 = .ok (.ireturn, 1) := by decide +kernel
theorem dX4_isOutside_0 : decode cX4_isOutside 0 = .ok (.iload_n 0, 1) := by decide +kernel
theorem dX4_isOutside_1 : decode cX4_isOutside 1 = .ok (.iload_n 1, 1) := by decide +kernel
theorem dX4_isOutside_2 : decode cX4_isOutside 2 = .ok (.if_icmp .lt 8, 3) := by decide +kernel
theorem dX4_isOutside_5 : decode cX4_isOutside 5 = .ok (.iload_n 0, 1) := by decide +kernel
theorem dX4_isOutside_6 : decode cX4_isOutside 6 = .ok (.iload_n 2, 1) := by decide +kernel
theorem dX4_isOutside_7 : decode cX4_isOutside 7 = .ok (.if_icmp .le 7, 3) := by decide +kernel
theorem dX4_isOutside_10 : decode cX4_isOutside 10 = .ok (.iconst 1, 1) := by decide +kernel
theorem dX4_isOutside_11 : decode cX4_isOutside 11 = .ok (.goto 4, 3) := by decide +kernel
theorem dX4_isOutside_14 : decode cX4_isOutside 14 = .ok (.iconst 0, 1) := by decide +kernel
theorem dX4_isOutside_15 : decode cX4_isOutside 15 = .ok (.ireturn, 1) := by decide +kernel
theorem dX4_canWalk_0 : decode cX4_canWalk 0 = .ok (.aload_n 0, 1) := by decide +kernel
theorem dX4_canWalk_1 : decode cX4_canWalk 1 = .ok (.getfield 10, 3) := by decide +kernel
theorem dX4_canWalk_4 : decode cX4_canWalk 4 = .ok (.invokevirtual 84, 3) := by decide +kernel
theorem dX4_canWalk_7 : decode cX4_canWalk 7 = .ok (.bipush (-6), 2) := by decide +kernel
theorem dX4_canWalk_9 : decode cX4_canWalk 9 = .ok (.if_icmp .eq 5, 3) := by decide +kernel
theorem dX4_canWalk_12 : decode cX4_canWalk 12 = .ok (.iconst 0, 1) := by decide +kernel
theorem dX4_canWalk_13 : decode cX4_canWalk 13 = .ok (.ireturn, 1) := by decide +kernel
theorem dX4_canWalk_14 : decode cX4_canWalk 14 = .ok (.aload_n 0, 1) := by decide +kernel
theorem dX4_canWalk_15 : decode cX4_canWalk 15 = .ok (.getfield 26, 3) := by decide +kernel
theorem dX4_canWalk_18 : decode cX4_canWalk 18 = .ok (.aload_n 0, 1) := by decide +kernel
theorem dX4_canWalk_19 : decode cX4_canWalk 19 = .ok (.getfield 10, 3) := by decide +kernel
theorem dX4_canWalk_22 : decode cX4_canWalk 22 = .ok (.aload_n 0, 1) := by decide +kernel
theorem dX4_canWalk_23 : decode cX4_canWalk 23 = .ok (.getfield 19, 3) := by decide +kernel
theorem dX4_canWalk_26 : decode cX4_canWalk 26 = .ok (.getfield 38, 3) := by decide +kernel
theorem dX4_canWalk_29 : decode cX4_canWalk 29 = .ok (.invokevirtual 87, 3) := by decide +kernel
theorem dX4_canWalk_32 : decode cX4_canWalk 32 = .ok (.aload_n 0, 1) := by decide +kernel
theorem dX4_canWalk_33 : decode cX4_canWalk 33 = .ok (.getfield 26, 3) := by decide +kernel
theorem dX4_canWalk_36 : decode cX4_canWalk 36 = .ok (.getfield 91, 3) := by decide +kernel
theorem dX4_canWalk_39 : decode cX4_canWalk 39 = .ok (.ifCond .ne 7, 3) := by decide +kernel
theorem dX4_canWalk_42 : decode cX4_canWalk 42 = .ok (.iconst 1, 1) := by decide +kernel
theorem dX4_canWalk_43 : decode cX4_canWalk 43 = .ok (.goto 4, 3) := by decide +kernel
theorem dX4_canWalk_46 : decode cX4_canWalk 46 = .ok (.iconst 0, 1) := by decide +kernel
theorem dX4_canWalk_47 : decode cX4_canWalk 47 = .ok (.ireturn, 1) := by decide +kernel
theorem dX4_echo_0 : decode cX4_echo 0 = .ok (.iload_n 0, 1) := by decide +kernel
theorem dX4_echo_1 : decode cX4_echo 1 = .ok (.iload_n 1, 1) := by decide +kernel
theorem dX4_echo_2 : decode cX4_echo 2 = .ok (.if_icmp .le 9, 3) := by decide +kernel
theorem dX4_echo_5 : decode cX4_echo 5 = .ok (.iload_n 0, 1) := by decide +kernel
theorem dX4_echo_6 : decode cX4_echo 6 = .ok (.iload_n 1, 1) := by decide +kernel
theorem dX4_echo_7 : decode cX4_echo 7 = .ok (.isub, 1) := by decide +kernel
theorem dX4_echo_8 : decode cX4_echo 8 = .ok (.goto 6, 3) := by decide +kernel
theorem dX4_echo_11 : decode cX4_echo 11 = .ok (.iload_n 1, 1) := by decide +kernel
theorem dX4_echo_12 : decode cX4_echo 12 = .ok (.iload_n 0, 1) := by decide +kernel
theorem dX4_echo_13 : decode cX4_echo 13 = .ok (.isub, 1) := by decide +kernel
theorem dX4_echo_14 : decode cX4_echo 14 = .ok (.istore_n 2, 1) := by decide +kernel
theorem dX4_echo_15 : decode cX4_echo 15 = .ok (.iload_n 2, 1) := by decide +kernel
theorem dX4_echo_16 : decode cX4_echo 16 = .ok (.iconst 2, 1) := by decide +kernel
theorem dX4_echo_17 : decode cX4_echo 17 = .ok (.if_icmp .ge 9, 3) := by decide +kernel
theorem dX4_echo_20 : decode cX4_echo 20 = .ok (.iconst 2, 1) := by decide +kernel
theorem dX4_echo_21 : decode cX4_echo 21 = .ok (.iload_n 2, 1) := by decide +kernel
theorem dX4_echo_22 : decode cX4_echo 22 = .ok (.isub, 1) := by decide +kernel
theorem dX4_echo_23 : decode cX4_echo 23 = .ok (.goto 4, 3) := by decide +kernel
theorem dX4_echo_26 : decode cX4_echo 26 = .ok (.iconst 0, 1) := by decide +kernel
theorem dX4_echo_27 : decode cX4_echo 27 = .ok (.ireturn, 1) := by decide +kernel
theorem dX4_powerOfTen_0 : decode cX4_powerOfTen 0 = .ok (.iconst 1, 1) := by decide +kernel
theorem dX4_powerOfTen_1 : decode cX4_powerOfTen 1 = .ok (.istore_n 1, 1) := by decide +kernel
theorem dX4_powerOfTen_2 : decode cX4_powerOfTen 2 = .ok (.iconst 0, 1) := by decide +kernel
theorem dX4_powerOfTen_3 : decode cX4_powerOfTen 3 = .ok (.istore_n 2, 1) := by decide +kernel
theorem dX4_powerOfTen_4 : decode cX4_powerOfTen 4 = .ok (.iload_n 2, 1) := by decide +kernel
theorem dX4_powerOfTen_5 : decode cX4_powerOfTen 5 = .ok (.iload_n 0, 1) := by decide +kernel
theorem dX4_powerOfTen_6 : decode cX4_powerOfTen 6 = .ok (.if_icmp .ge 14, 3) := by decide +kernel
theorem dX4_powerOfTen_9 : decode cX4_powerOfTen 9 = .ok (.iload_n 1, 1) := by decide +kernel
theorem dX4_powerOfTen_10 : decode cX4_powerOfTen 10 = .ok (.bipush 10, 2) := by decide +kernel
theorem dX4_powerOfTen_12 : decode cX4_powerOfTen 12 = .ok (.imul, 1) := by decide +kernel
theorem dX4_powerOfTen_13 : decode cX4_powerOfTen 13 = .ok (.istore_n 1, 1) := by decide +kernel
theorem dX4_powerOfTen_14 : decode cX4_powerOfTen 14 = .ok (.iinc 2 1, 3) := by decide +kernel
theorem dX4_powerOfTen_17 : decode cX4_powerOfTen 17 = .ok (.goto (-13), 3) := by decide +kernel
theorem dX4_powerOfTen_20 : decode cX4_powerOfTen 20 = .ok (.iload_n 1, 1) := by decide +kernel
theorem dX4_powerOfTen_21 : decode cX4_powerOfTen 21 = .ok (.ireturn, 1) := by decide +kernel
theorem dX4_fewestWatchers_0 : decode cX4_fewestWatchers 0 = .ok (.sipush 4095, 3) := by decide +kernel
theorem dX4_fewestWatchers_3 : decode cX4_fewestWatchers 3 = .ok (.istore_n 2, 1) := by decide +kernel
theorem dX4_fewestWatchers_4 : decode cX4_fewestWatchers 4 = .ok (.bipush 12, 2) := by decide +kernel
theorem dX4_fewestWatchers_6 : decode cX4_fewestWatchers 6 = .ok (.istore_n 3, 1) := by decide +kernel
theorem dX4_fewestWatchers_7 : decode cX4_fewestWatchers 7 = .ok (.iconst 0, 1) := by decide +kernel
theorem dX4_fewestWatchers_8 : decode cX4_fewestWatchers 8 = .ok (.istore 4, 2) := by decide +kernel
theorem dX4_fewestWatchers_10 : decode cX4_fewestWatchers 10 = .ok (.iload 4, 2) := by decide +kernel
theorem dX4_fewestWatchers_12 : decode cX4_fewestWatchers 12 = .ok (.sipush 4095, 3) := by decide +kernel
theorem dX4_fewestWatchers_15 : decode cX4_fewestWatchers 15 = .ok (.if_icmp .ge 41, 3) := by decide +kernel
theorem dX4_fewestWatchers_18 : decode cX4_fewestWatchers 18 = .ok (.iload 4, 2) := by decide +kernel
theorem dX4_fewestWatchers_20 : decode cX4_fewestWatchers 20 = .ok (.invokestatic 55, 3) := by decide +kernel
theorem dX4_fewestWatchers_23 : decode cX4_fewestWatchers 23 = .ok (.istore 5, 2) := by decide +kernel
theorem dX4_fewestWatchers_25 : decode cX4_fewestWatchers 25 = .ok (.iload 5, 2) := by decide +kernel
theorem dX4_fewestWatchers_27 : decode cX4_fewestWatchers 27 = .ok (.iload_n 3, 1) := by decide +kernel
theorem dX4_fewestWatchers_28 : decode cX4_fewestWatchers 28 = .ok (.if_icmp .ge 22, 3) := by decide +kernel
theorem dX4_fewestWatchers_31 : decode cX4_fewestWatchers 31 = .ok (.iload_n 0, 1) := by decide +kernel
theorem dX4_fewestWatchers_32 : decode cX4_fewestWatchers 32 = .ok (.iload 4, 2) := by decide +kernel
theorem dX4_fewestWatchers_34 : decode cX4_fewestWatchers 34 = .ok (.iload_n 1, 1) := by decide +kernel
theorem dX4_fewestWatchers_35 : decode cX4_fewestWatchers 35 = .ok (.invokestatic 187, 3) := by decide +kernel
theorem dX4_fewestWatchers_38 : decode cX4_fewestWatchers 38 = .ok (.iconst (-1), 1) := by decide +kernel
theorem dX4_fewestWatchers_39 : decode cX4_fewestWatchers 39 = .ok (.ixor, 1) := by decide +kernel
theorem dX4_fewestWatchers_40 : decode cX4_fewestWatchers 40 = .ok (.iand, 1) := by decide +kernel
theorem dX4_fewestWatchers_41 : decode cX4_fewestWatchers 41 = .ok (.ifCond .ne 9, 3) := by decide +kernel
theorem dX4_fewestWatchers_44 : decode cX4_fewestWatchers 44 = .ok (.iload 4, 2) := by decide +kernel
theorem dX4_fewestWatchers_46 : decode cX4_fewestWatchers 46 = .ok (.istore_n 2, 1) := by decide +kernel
theorem dX4_fewestWatchers_47 : decode cX4_fewestWatchers 47 = .ok (.iload 5, 2) := by decide +kernel
theorem dX4_fewestWatchers_49 : decode cX4_fewestWatchers 49 = .ok (.istore_n 3, 1) := by decide +kernel
theorem dX4_fewestWatchers_50 : decode cX4_fewestWatchers 50 = .ok (.iinc 4 1, 3) := by decide +kernel
theorem dX4_fewestWatchers_53 : decode cX4_fewestWatchers 53 = .ok (.goto (-43), 3) := by decide +kernel
theorem dX4_fewestWatchers_56 : decode cX4_fewestWatchers 56 = .ok (.iload_n 2, 1) := by decide +kernel
theorem dX4_fewestWatchers_57 : decode cX4_fewestWatchers 57 = .ok (.ireturn, 1) := by decide +kernel
theorem dX4_partsSeen_0 : decode cX4_partsSeen 0 = .ok (.iload_n 0, 1) := by decide +kernel
theorem dX4_partsSeen_1 : decode cX4_partsSeen 1 = .ok (.istore_n 2, 1) := by decide +kernel
theorem dX4_partsSeen_2 : decode cX4_partsSeen 2 = .ok (.iconst 1, 1) := by decide +kernel
theorem dX4_partsSeen_3 : decode cX4_partsSeen 3 = .ok (.istore_n 3, 1) := by decide +kernel
theorem dX4_partsSeen_4 : decode cX4_partsSeen 4 = .ok (.iload_n 3, 1) := by decide +kernel
theorem dX4_partsSeen_5 : decode cX4_partsSeen 5 = .ok (.iload_n 1, 1) := by decide +kernel
theorem dX4_partsSeen_6 : decode cX4_partsSeen 6 = .ok (.if_icmp .gt 26, 3) := by decide +kernel
theorem dX4_partsSeen_9 : decode cX4_partsSeen 9 = .ok (.iload_n 2, 1) := by decide +kernel
theorem dX4_partsSeen_10 : decode cX4_partsSeen 10 = .ok (.iload_n 0, 1) := by decide +kernel
theorem dX4_partsSeen_11 : decode cX4_partsSeen 11 = .ok (.iload_n 3, 1) := by decide +kernel
theorem dX4_partsSeen_12 : decode cX4_partsSeen 12 = .ok (.invokestatic 190, 3) := by decide +kernel
theorem dX4_partsSeen_15 : decode cX4_partsSeen 15 = .ok (.iload_n 0, 1) := by decide +kernel
theorem dX4_partsSeen_16 : decode cX4_partsSeen 16 = .ok (.bipush 12, 2) := by decide +kernel
theorem dX4_partsSeen_18 : decode cX4_partsSeen 18 = .ok (.iload_n 3, 1) := by decide +kernel
theorem dX4_partsSeen_19 : decode cX4_partsSeen 19 = .ok (.isub, 1) := by decide +kernel
theorem dX4_partsSeen_20 : decode cX4_partsSeen 20 = .ok (.invokestatic 190, 3) := by decide +kernel
theorem dX4_partsSeen_23 : decode cX4_partsSeen 23 = .ok (.ior, 1) := by decide +kernel
theorem dX4_partsSeen_24 : decode cX4_partsSeen 24 = .ok (.ior, 1) := by decide +kernel
theorem dX4_partsSeen_25 : decode cX4_partsSeen 25 = .ok (.istore_n 2, 1) := by decide +kernel
theorem dX4_partsSeen_26 : decode cX4_partsSeen 26 = .ok (.iinc 3 1, 3) := by decide +kernel
theorem dX4_partsSeen_29 : decode cX4_partsSeen 29 = .ok (.goto (-25), 3) := by decide +kernel
theorem dX4_partsSeen_32 : decode cX4_partsSeen 32 = .ok (.iload_n 2, 1) := by decide +kernel
theorem dX4_partsSeen_33 : decode cX4_partsSeen 33 = .ok (.ireturn, 1) := by decide +kernel
theorem dX4_turned_0 : decode cX4_turned 0 = .ok (.iload_n 0, 1) := by decide +kernel
theorem dX4_turned_1 : decode cX4_turned 1 = .ok (.iload_n 1, 1) := by decide +kernel
theorem dX4_turned_2 : decode cX4_turned 2 = .ok (.ishl, 1) := by decide +kernel
theorem dX4_turned_3 : decode cX4_turned 3 = .ok (.iload_n 0, 1) := by decide +kernel
theorem dX4_turned_4 : decode cX4_turned 4 = .ok (.bipush 12, 2) := by decide +kernel
theorem dX4_turned_6 : decode cX4_turned 6 = .ok (.iload_n 1, 1) := by decide +kernel
theorem dX4_turned_7 : decode cX4_turned 7 = .ok (.isub, 1) := by decide +kernel
theorem dX4_turned_8 : decode cX4_turned 8 = .ok (.ishr, 1) := by decide +kernel
theorem dX4_turned_9 : decode cX4_turned 9 = .ok (.ior, 1) := by decide +kernel
theorem dX4_turned_10 : decode cX4_turned 10 = .ok (.sipush 4095, 3) := by decide +kernel
theorem dX4_turned_13 : decode cX4_turned 13 = .ok (.iand, 1) := by decide +kernel
theorem dX4_turned_14 : decode cX4_turned 14 = .ok (.ireturn, 1) := by decide +kernel
theorem dX4_tonesAnswering_0 : decode cX4_tonesAnswering 0 = .ok (.iconst 0, 1) := by decide +kernel
theorem dX4_tonesAnswering_1 : decode cX4_tonesAnswering 1 = .ok (.istore_n 2, 1) := by decide +kernel
theorem dX4_tonesAnswering_2 : decode cX4_tonesAnswering 2 = .ok (.iconst 0, 1) := by decide +kernel
theorem dX4_tonesAnswering_3 : decode cX4_tonesAnswering 3 = .ok (.istore_n 3, 1) := by decide +kernel
theorem dX4_tonesAnswering_4 : decode cX4_tonesAnswering 4 = .ok (.iload_n 3, 1) := by decide +kernel
theorem dX4_tonesAnswering_5 : decode cX4_tonesAnswering 5 = .ok (.bipush 10, 2) := by decide +kernel
theorem dX4_tonesAnswering_7 : decode cX4_tonesAnswering 7 = .ok (.if_icmp .ge 24, 3) := by decide +kernel
theorem dX4_tonesAnswering_10 : decode cX4_tonesAnswering 10 = .ok (.iload_n 0, 1) := by decide +kernel
theorem dX4_tonesAnswering_11 : decode cX4_tonesAnswering 11 = .ok (.iload_n 3, 1) := by decide +kernel
theorem dX4_tonesAnswering_12 : decode cX4_tonesAnswering 12 = .ok (.invokestatic 193, 3) := by decide +kernel
theorem dX4_tonesAnswering_15 : decode cX4_tonesAnswering 15 = .ok (.iload_n 1, 1) := by decide +kernel
theorem dX4_tonesAnswering_16 : decode cX4_tonesAnswering 16 = .ok (.if_icmp .ne 9, 3) := by decide +kernel
theorem dX4_tonesAnswering_19 : decode cX4_tonesAnswering 19 = .ok (.iload_n 2, 1) := by decide +kernel
theorem dX4_tonesAnswering_20 : decode cX4_tonesAnswering 20 = .ok (.iconst 1, 1) := by decide +kernel
theorem dX4_tonesAnswering_21 : decode cX4_tonesAnswering 21 = .ok (.iload_n 3, 1) := by decide +kernel
theorem dX4_tonesAnswering_22 : decode cX4_tonesAnswering 22 = .ok (.ishl, 1) := by decide +kernel
theorem dX4_tonesAnswering_23 : decode cX4_tonesAnswering 23 = .ok (.ior, 1) := by decide +kernel
theorem dX4_tonesAnswering_24 : decode cX4_tonesAnswering 24 = .ok (.istore_n 2, 1) := by decide +kernel
theorem dX4_tonesAnswering_25 : decode cX4_tonesAnswering 25 = .ok (.iinc 3 1, 3) := by decide +kernel
theorem dX4_tonesAnswering_28 : decode cX4_tonesAnswering 28 = .ok (.goto (-24), 3) := by decide +kernel
theorem dX4_tonesAnswering_31 : decode cX4_tonesAnswering 31 = .ok (.iload_n 2, 1) := by decide +kernel
theorem dX4_tonesAnswering_32 : decode cX4_tonesAnswering 32 = .ok (.ireturn, 1) := by decide +kernel
theorem dX4_mostLeft_0 : decode cX4_mostLeft 0 = .ok (.iconst 0, 1) := by decide +kernel
theorem dX4_mostLeft_1 : decode cX4_mostLeft 1 = .ok (.istore_n 2, 1) := by decide +kernel
theorem dX4_mostLeft_2 : decode cX4_mostLeft 2 = .ok (.iconst 0, 1) := by decide +kernel
theorem dX4_mostLeft_3 : decode cX4_mostLeft 3 = .ok (.istore_n 3, 1) := by decide +kernel
theorem dX4_mostLeft_4 : decode cX4_mostLeft 4 = .ok (.iload_n 3, 1) := by decide +kernel
theorem dX4_mostLeft_5 : decode cX4_mostLeft 5 = .ok (.iconst 2, 1) := by decide +kernel
theorem dX4_mostLeft_6 : decode cX4_mostLeft 6 = .ok (.if_icmp .gt 24, 3) := by decide +kernel
theorem dX4_mostLeft_9 : decode cX4_mostLeft 9 = .ok (.iload_n 2, 1) := by decide +kernel
theorem dX4_mostLeft_10 : decode cX4_mostLeft 10 = .ok (.iload_n 0, 1) := by decide +kernel
theorem dX4_mostLeft_11 : decode cX4_mostLeft 11 = .ok (.iload_n 1, 1) := by decide +kernel
theorem dX4_mostLeft_12 : decode cX4_mostLeft 12 = .ok (.iload_n 3, 1) := by decide +kernel
theorem dX4_mostLeft_13 : decode cX4_mostLeft 13 = .ok (.invokestatic 146, 3) := by decide +kernel
theorem dX4_mostLeft_16 : decode cX4_mostLeft 16 = .ok (.iand, 1) := by decide +kernel
theorem dX4_mostLeft_17 : decode cX4_mostLeft 17 = .ok (.invokestatic 55, 3) := by decide +kernel
theorem dX4_mostLeft_20 : decode cX4_mostLeft 20 = .ok (.invokestatic 196, 3) := by decide +kernel
theorem dX4_mostLeft_23 : decode cX4_mostLeft 23 = .ok (.istore_n 2, 1) := by decide +kernel
theorem dX4_mostLeft_24 : decode cX4_mostLeft 24 = .ok (.iinc 3 1, 3) := by decide +kernel
theorem dX4_mostLeft_27 : decode cX4_mostLeft 27 = .ok (.goto (-23), 3) := by decide +kernel
theorem dX4_mostLeft_30 : decode cX4_mostLeft 30 = .ok (.iload_n 2, 1) := by decide +kernel
theorem dX4_mostLeft_31 : decode cX4_mostLeft 31 = .ok (.ireturn, 1) := by decide +kernel
theorem dX4_bestHornToAsk_0 : decode cX4_bestHornToAsk 0 = .ok (.iconst 0, 1) := by decide +kernel
theorem dX4_bestHornToAsk_1 : decode cX4_bestHornToAsk 1 = .ok (.istore_n 1, 1) := by decide +kernel
theorem dX4_bestHornToAsk_2 : decode cX4_bestHornToAsk 2 = .ok (.iload_n 0, 1) := by decide +kernel
theorem dX4_bestHornToAsk_3 : decode cX4_bestHornToAsk 3 = .ok (.iconst 0, 1) := by decide +kernel
theorem dX4_bestHornToAsk_4 : decode cX4_bestHornToAsk 4 = .ok (.invokestatic 152, 3) := by decide +kernel
theorem dX4_bestHornToAsk_7 : decode cX4_bestHornToAsk 7 = .ok (.istore_n 2, 1) := by decide +kernel
theorem dX4_bestHornToAsk_8 : decode cX4_bestHornToAsk 8 = .ok (.iconst 1, 1) := by decide +kernel
theorem dX4_bestHornToAsk_9 : decode cX4_bestHornToAsk 9 = .ok (.istore_n 3, 1) := by decide +kernel
theorem dX4_bestHornToAsk_10 : decode cX4_bestHornToAsk 10 = .ok (.iload_n 3, 1) := by decide +kernel
theorem dX4_bestHornToAsk_11 : decode cX4_bestHornToAsk 11 = .ok (.bipush 10, 2) := by decide +kernel
theorem dX4_bestHornToAsk_13 : decode cX4_bestHornToAsk 13 = .ok (.if_icmp .ge 27, 3) := by decide +kernel
theorem dX4_bestHornToAsk_16 : decode cX4_bestHornToAsk 16 = .ok (.iload_n 0, 1) := by decide +kernel
theorem dX4_bestHornToAsk_17 : decode cX4_bestHornToAsk 17 = .ok (.iload_n 3, 1) := by decide +kernel
theorem dX4_bestHornToAsk_18 : decode cX4_bestHornToAsk 18 = .ok (.invokestatic 152, 3) := by decide +kernel
theorem dX4_bestHornToAsk_21 : decode cX4_bestHornToAsk 21 = .ok (.istore 4, 2) := by decide +kernel
theorem dX4_bestHornToAsk_23 : decode cX4_bestHornToAsk 23 = .ok (.iload 4, 2) := by decide +kernel
theorem dX4_bestHornToAsk_25 : decode cX4_bestHornToAsk 25 = .ok (.iload_n 2, 1) := by decide +kernel
theorem dX4_bestHornToAsk_26 : decode cX4_bestHornToAsk 26 = .ok (.if_icmp .ge 8, 3) := by decide +kernel
theorem dX4_bestHornToAsk_29 : decode cX4_bestHornToAsk 29 = .ok (.iload_n 3, 1) := by decide +kernel
theorem dX4_bestHornToAsk_30 : decode cX4_bestHornToAsk 30 = .ok (.istore_n 1, 1) := by decide +kernel
theorem dX4_bestHornToAsk_31 : decode cX4_bestHornToAsk 31 = .ok (.iload 4, 2) := by decide +kernel
theorem dX4_bestHornToAsk_33 : decode cX4_bestHornToAsk 33 = .ok (.istore_n 2, 1) := by decide +kernel
theorem dX4_bestHornToAsk_34 : decode cX4_bestHornToAsk 34 = .ok (.iinc 3 1, 3) := by decide +kernel
theorem dX4_bestHornToAsk_37 : decode cX4_bestHornToAsk 37 = .ok (.goto (-27), 3) := by decide +kernel
theorem dX4_bestHornToAsk_40 : decode cX4_bestHornToAsk 40 = .ok (.iload_n 1, 1) := by decide +kernel
theorem dX4_bestHornToAsk_41 : decode cX4_bestHornToAsk 41 = .ok (.ireturn, 1) := by decide +kernel
theorem dX4_keptInTheMean_0 : decode cX4_keptInTheMean 0 = .ok (.lconst 0, 1) := by decide +kernel
theorem dX4_keptInTheMean_1 : decode cX4_keptInTheMean 1 = .ok (.lstore_n 2, 1) := by decide +kernel
theorem dX4_keptInTheMean_2 : decode cX4_keptInTheMean 2 = .ok (.lconst 1, 1) := by decide +kernel
theorem dX4_keptInTheMean_3 : decode cX4_keptInTheMean 3 = .ok (.lstore 4, 2) := by decide +kernel
theorem dX4_keptInTheMean_5 : decode cX4_keptInTheMean 5 = .ok (.iconst 1, 1) := by decide +kernel
theorem dX4_keptInTheMean_6 : decode cX4_keptInTheMean 6 = .ok (.istore 6, 2) := by decide +kernel
theorem dX4_keptInTheMean_8 : decode cX4_keptInTheMean 8 = .ok (.iload 6, 2) := by decide +kernel
theorem dX4_keptInTheMean_10 : decode cX4_keptInTheMean 10 = .ok (.iload_n 0, 1) := by decide +kernel
theorem dX4_keptInTheMean_11 : decode cX4_keptInTheMean 11 = .ok (.if_icmp .gt 54, 3) := by decide +kernel
theorem dX4_keptInTheMean_14 : decode cX4_keptInTheMean 14 = .ok (.lload 4, 2) := by decide +kernel
theorem dX4_keptInTheMean_16 : decode cX4_keptInTheMean 16 = .ok (.ldc2_w 201, 3) := by decide +kernel
theorem dX4_keptInTheMean_19 : decode cX4_keptInTheMean 19 = .ok (.lmul, 1) := by decide +kernel
theorem dX4_keptInTheMean_20 : decode cX4_keptInTheMean 20 = .ok (.lstore 4, 2) := by decide +kernel
theorem dX4_keptInTheMean_22 : decode cX4_keptInTheMean 22 = .ok (.bipush 10, 2) := by decide +kernel
theorem dX4_keptInTheMean_24 : decode cX4_keptInTheMean 24 = .ok (.iload 6, 2) := by decide +kernel
theorem dX4_keptInTheMean_26 : decode cX4_keptInTheMean 26 = .ok (.imul, 1) := by decide +kernel
theorem dX4_keptInTheMean_27 : decode cX4_keptInTheMean 27 = .ok (.i2l, 1) := by decide +kernel
theorem dX4_keptInTheMean_28 : decode cX4_keptInTheMean 28 = .ok (.lload 4, 2) := by decide +kernel
theorem dX4_keptInTheMean_30 : decode cX4_keptInTheMean 30 = .ok (.lmul, 1) := by decide +kernel
theorem dX4_keptInTheMean_31 : decode cX4_keptInTheMean 31 = .ok (.lstore 7, 2) := by decide +kernel
theorem dX4_keptInTheMean_33 : decode cX4_keptInTheMean 33 = .ok (.bipush 10, 2) := by decide +kernel
theorem dX4_keptInTheMean_35 : decode cX4_keptInTheMean 35 = .ok (.iload_n 1, 1) := by decide +kernel
theorem dX4_keptInTheMean_36 : decode cX4_keptInTheMean 36 = .ok (.imul, 1) := by decide +kernel
theorem dX4_keptInTheMean_37 : decode cX4_keptInTheMean 37 = .ok (.i2l, 1) := by decide +kernel
theorem dX4_keptInTheMean_38 : decode cX4_keptInTheMean 38 = .ok (.lload 4, 2) := by decide +kernel
theorem dX4_keptInTheMean_40 : decode cX4_keptInTheMean 40 = .ok (.lmul, 1) := by decide +kernel
theorem dX4_keptInTheMean_41 : decode cX4_keptInTheMean 41 = .ok (.bipush 10, 2) := by decide +kernel
theorem dX4_keptInTheMean_43 : decode cX4_keptInTheMean 43 = .ok (.iload_n 1, 1) := by decide +kernel
theorem dX4_keptInTheMean_44 : decode cX4_keptInTheMean 44 = .ok (.isub, 1) := by decide +kernel
theorem dX4_keptInTheMean_45 : decode cX4_keptInTheMean 45 = .ok (.i2l, 1) := by decide +kernel
theorem dX4_keptInTheMean_46 : decode cX4_keptInTheMean 46 = .ok (.lload_n 2, 1) := by decide +kernel
theorem dX4_keptInTheMean_47 : decode cX4_keptInTheMean 47 = .ok (.lmul, 1) := by decide +kernel
theorem dX4_keptInTheMean_48 : decode cX4_keptInTheMean 48 = .ok (.ladd, 1) := by decide +kernel
theorem dX4_keptInTheMean_49 : decode cX4_keptInTheMean 49 = .ok (.lstore 9, 2) := by decide +kernel
theorem dX4_keptInTheMean_51 : decode cX4_keptInTheMean 51 = .ok (.lload 7, 2) := by decide +kernel
theorem dX4_keptInTheMean_53 : decode cX4_keptInTheMean 53 = .ok (.lload 9, 2) := by decide +kernel
theorem dX4_keptInTheMean_55 : decode cX4_keptInTheMean 55 = .ok (.invokestatic 203, 3) := by decide +kernel
theorem dX4_keptInTheMean_58 : decode cX4_keptInTheMean 58 = .ok (.lstore_n 2, 1) := by decide +kernel
theorem dX4_keptInTheMean_59 : decode cX4_keptInTheMean 59 = .ok (.iinc 6 1, 3) := by decide +kernel
theorem dX4_keptInTheMean_62 : decode cX4_keptInTheMean 62 = .ok (.goto (-54), 3) := by decide +kernel
theorem dX4_keptInTheMean_65 : decode cX4_keptInTheMean 65 = .ok (.lload_n 2, 1) := by decide +kernel
theorem dX4_keptInTheMean_66 : decode cX4_keptInTheMean 66 = .ok (.lreturn, 1) := by decide +kernel
theorem dX4_commonDivisor_0 : decode cX4_commonDivisor 0 = .ok (.lload_n 0, 1) := by decide +kernel
theorem dX4_commonDivisor_1 : decode cX4_commonDivisor 1 = .ok (.lstore 4, 2) := by decide +kernel
theorem dX4_commonDivisor_3 : decode cX4_commonDivisor 3 = .ok (.lload_n 2, 1) := by decide +kernel
theorem dX4_commonDivisor_4 : decode cX4_commonDivisor 4 = .ok (.lstore 6, 2) := by decide +kernel
theorem dX4_commonDivisor_6 : decode cX4_commonDivisor 6 = .ok (.iconst 0, 1) := by decide +kernel
theorem dX4_commonDivisor_7 : decode cX4_commonDivisor 7 = .ok (.istore 8, 2) := by decide +kernel
theorem dX4_commonDivisor_9 : decode cX4_commonDivisor 9 = .ok (.iload 8, 2) := by decide +kernel
theorem dX4_commonDivisor_11 : decode cX4_commonDivisor 11 = .ok (.bipush 100, 2) := by decide +kernel
theorem dX4_commonDivisor_13 : decode cX4_commonDivisor 13 = .ok (.if_icmp .ge 31, 3) := by decide +kernel
theorem dX4_commonDivisor_16 : decode cX4_commonDivisor 16 = .ok (.lload 6, 2) := by decide +kernel
theorem dX4_commonDivisor_18 : decode cX4_commonDivisor 18 = .ok (.lconst 0, 1) := by decide +kernel
theorem dX4_commonDivisor_19 : decode cX4_commonDivisor 19 = .ok (.lcmp, 1) := by decide +kernel
theorem dX4_commonDivisor_20 : decode cX4_commonDivisor 20 = .ok (.ifCond .eq 24, 3) := by decide +kernel
theorem dX4_commonDivisor_23 : decode cX4_commonDivisor 23 = .ok (.lload 4, 2) := by decide +kernel
theorem dX4_commonDivisor_25 : decode cX4_commonDivisor 25 = .ok (.lload 6, 2) := by decide +kernel
theorem dX4_commonDivisor_27 : decode cX4_commonDivisor 27 = .ok (.lrem, 1) := by decide +kernel
theorem dX4_commonDivisor_28 : decode cX4_commonDivisor 28 = .ok (.lstore 9, 2) := by decide +kernel
theorem dX4_commonDivisor_30 : decode cX4_commonDivisor 30 = .ok (.lload 6, 2) := by decide +kernel
theorem dX4_commonDivisor_32 : decode cX4_commonDivisor 32 = .ok (.lstore 4, 2) := by decide +kernel
theorem dX4_commonDivisor_34 : decode cX4_commonDivisor 34 = .ok (.lload 9, 2) := by decide +kernel
theorem dX4_commonDivisor_36 : decode cX4_commonDivisor 36 = .ok (.lstore 6, 2) := by decide +kernel
theorem dX4_commonDivisor_38 : decode cX4_commonDivisor 38 = .ok (.iinc 8 1, 3) := by decide +kernel
theorem dX4_commonDivisor_41 : decode cX4_commonDivisor 41 = .ok (.goto (-32), 3) := by decide +kernel
theorem dX4_commonDivisor_44 : decode cX4_commonDivisor 44 = .ok (.lconst 1, 1) := by decide +kernel
theorem dX4_commonDivisor_45 : decode cX4_commonDivisor 45 = .ok (.lload 4, 2) := by decide +kernel
theorem dX4_commonDivisor_47 : decode cX4_commonDivisor 47 = .ok (.invokestatic 203, 3) := by decide +kernel
theorem dX4_commonDivisor_50 : decode cX4_commonDivisor 50 = .ok (.lreturn, 1) := by decide +kernel
theorem dX4_lotsAmong_0 : decode cX4_lotsAmong 0 = .ok (.iconst 0, 1) := by decide +kernel
theorem dX4_lotsAmong_1 : decode cX4_lotsAmong 1 = .ok (.istore_n 1, 1) := by decide +kernel
theorem dX4_lotsAmong_2 : decode cX4_lotsAmong 2 = .ok (.iload_n 1, 1) := by decide +kernel
theorem dX4_lotsAmong_3 : decode cX4_lotsAmong 3 = .ok (.bipush 30, 2) := by decide +kernel
theorem dX4_lotsAmong_5 : decode cX4_lotsAmong 5 = .ok (.if_icmp .ge 16, 3) := by decide +kernel
theorem dX4_lotsAmong_8 : decode cX4_lotsAmong 8 = .ok (.iconst 1, 1) := by decide +kernel
theorem dX4_lotsAmong_9 : decode cX4_lotsAmong 9 = .ok (.iload_n 1, 1) := by decide +kernel
theorem dX4_lotsAmong_10 : decode cX4_lotsAmong 10 = .ok (.ishl, 1) := by decide +kernel
theorem dX4_lotsAmong_11 : decode cX4_lotsAmong 11 = .ok (.iload_n 0, 1) := by decide +kernel
theorem dX4_lotsAmong_12 : decode cX4_lotsAmong 12 = .ok (.if_icmp .ge 9, 3) := by decide +kernel
theorem dX4_lotsAmong_15 : decode cX4_lotsAmong 15 = .ok (.iinc 1 1, 3) := by decide +kernel
theorem dX4_lotsAmong_18 : decode cX4_lotsAmong 18 = .ok (.goto (-16), 3) := by decide +kernel
theorem dX4_lotsAmong_21 : decode cX4_lotsAmong 21 = .ok (.iload_n 1, 1) := by decide +kernel
theorem dX4_lotsAmong_22 : decode cX4_lotsAmong 22 = .ok (.ireturn, 1) := by decide +kernel
theorem dX5_init_0 : decode cX5_init 0 = .ok (.aload_n 0, 1) := by decide +kernel
theorem dX5_init_1 : decode cX5_init 1 = .ok (.invokespecial 1, 3) := by decide +kernel
theorem dX5_init_4 : decode cX5_init 4 = .ok (.aload_n 0, 1) := by decide +kernel
theorem dX5_init_5 : decode cX5_init 5 = .ok (.bipush 15, 2) := by decide +kernel
theorem dX5_init_7 : decode cX5_init 7 = .ok (.newarray .int, 2) := by decide +kernel
theorem dX5_init_9 : decode cX5_init 9 = .ok (.putfield 7, 3) := by decide +kernel
theorem dX5_init_12 : decode cX5_init 12 = .ok (.aload_n 0, 1) := by decide +kernel
theorem dX5_init_13 : decode cX5_init 13 = .ok (.bipush 15, 2) := by decide +kernel
theorem dX5_init_15 : decode cX5_init 15 = .ok (.newarray .int, 2) := by decide +kernel
theorem dX5_init_17 : decode cX5_init 17 = .ok (.putfield 13, 3) := by decide +kernel
theorem dX5_init_20 : decode cX5_init 20 = .ok (.aload_n 0, 1) := by decide +kernel
theorem dX5_init_21 : decode cX5_init 21 = .ok (.bipush 12, 2) := by decide +kernel
theorem dX5_init_23 : decode cX5_init 23 = .ok (.newarray .int, 2) := by decide +kernel
theorem dX5_init_25 : decode cX5_init 25 = .ok (.putfield 16, 3) := by decide +kernel
theorem dX5_init_28 : decode cX5_init 28 = .ok (.aload_n 0, 1) := by decide +kernel
theorem dX5_init_29 : decode cX5_init 29 = .ok (.bipush 8, 2) := by decide +kernel
theorem dX5_init_31 : decode cX5_init 31 = .ok (.newarray .int, 2) := by decide +kernel
theorem dX5_init_33 : decode cX5_init 33 = .ok (.putfield 19, 3) := by decide +kernel
theorem dX5_init_36 : decode cX5_init 36 = .ok (.aload_n 0, 1) := by decide +kernel
theorem dX5_init_37 : decode cX5_init 37 = .ok (.bipush 16, 2) := by decide +kernel
theorem dX5_init_39 : decode cX5_init 39 = .ok (.newarray .int, 2) := by decide +kernel
theorem dX5_init_41 : decode cX5_init 41 = .ok (.putfield 22, 3) := by decide +kernel
theorem dX5_init_44 : decode cX5_init 44 = .ok (.aload_n 0, 1) := by decide +kernel
theorem dX5_init_45 : decode cX5_init 45 = .ok (.bipush 60, 2) := by decide +kernel
theorem dX5_init_47 : decode cX5_init 47 = .ok (.newarray .int, 2) := by decide +kernel
theorem dX5_init_49 : decode cX5_init 49 = .ok (.putfield 25, 3) := by decide +kernel
theorem dX5_init_52 : decode cX5_init 52 = .ok (.aload_n 0, 1) := by decide +kernel
theorem dX5_init_53 : decode cX5_init 53 = .ok (.iconst 3, 1) := by decide +kernel
theorem dX5_init_54 : decode cX5_init 54 = .ok (.newarray .int, 2) := by decide +kernel
theorem dX5_init_56 : decode cX5_init 56 = .ok (.putfield 28, 3) := by decide +kernel
theorem dX5_init_59 : decode cX5_init 59 = .ok (.aload_n 0, 1) := by decide +kernel
theorem dX5_init_60 : decode cX5_init 60 = .ok (.bipush 120, 2) := by decide +kernel
theorem dX5_init_62 : decode cX5_init 62 = .ok (.newarray .int, 2) := by decide +kernel
theorem dX5_init_64 : decode cX5_init 64 = .ok (.putfield 31, 3) := by decide +kernel
theorem dX5_init_67 : decode cX5_init 67 = .ok (.aload_n 0, 1) := by decide +kernel
theorem dX5_init_68 : decode cX5_init 68 = .ok (.iconst 2, 1) := by decide +kernel
theorem dX5_init_69 : decode cX5_init 69 = .ok (.newarray .boolean, 2) := by decide +kernel
theorem dX5_init_71 : decode cX5_init 71 = .ok (.putfield 34, 3) := by decide +kernel
theorem dX5_init_74 : decode cX5_init 74 = .ok (.iconst 0, 1) := by decide +kernel
theorem dX5_init_75 : decode cX5_init 75 = .ok (.istore_n 1, 1) := by decide +kernel
theorem dX5_init_76 : decode cX5_init 76 = .ok (.iload_n 1, 1) := by decide +kernel
theorem dX5_init_77 : decode cX5_init 77 = .ok (.bipush 12, 2) := by decide +kernel
theorem dX5_init_79 : decode cX5_init 79 = .ok (.if_icmp .ge 17, 3) := by decide +kernel
theorem dX5_init_82 : decode cX5_init 82 = .ok (.aload_n 0, 1) := by decide +kernel
theorem dX5_init_83 : decode cX5_init 83 = .ok (.getfield 7, 3) := by decide +kernel
theorem dX5_init_86 : decode cX5_init 86 = .ok (.iload_n 1, 1) := by decide +kernel
theorem dX5_init_87 : decode cX5_init 87 = .ok (.bipush 10, 2) := by decide +kernel
theorem dX5_init_89 : decode cX5_init 89 = .ok (.iastore, 1) := by decide +kernel
theorem dX5_init_90 : decode cX5_init 90 = .ok (.iinc 1 1, 3) := by decide +kernel
theorem dX5_init_93 : decode cX5_init 93 = .ok (.goto (-17), 3) := by decide +kernel
theorem dX5_init_96 : decode cX5_init 96 = .ok (.iconst 0, 1) := by decide +kernel
theorem dX5_init_97 : decode cX5_init 97 = .ok (.istore_n 1, 1) := by decide +kernel
theorem dX5_init_98 : decode cX5_init 98 = .ok (.iload_n 1, 1) := by decide +kernel
theorem dX5_init_99 : decode cX5_init 99 = .ok (.bipush 8, 2) := by decide +kernel
theorem dX5_init_101 : decode cX5_init 101 = .ok (.if_icmp .ge 17, 3) := by decide +kernel
theorem dX5_init_104 : decode cX5_init 104 = .ok (.aload_n 0, 1) := by decide +kernel
theorem dX5_init_105 : decode cX5_init 105 = .ok (.getfield 19, 3) := by decide +kernel
theorem dX5_init_108 : decode cX5_init 108 = .ok (.iload_n 1, 1) := by decide +kernel
theorem dX5_init_109 : decode cX5_init 109 = .ok (.bipush 8, 2) := by decide +kernel
theorem dX5_init_111 : decode cX5_init 111 = .ok (.iastore, 1) := by decide +kernel
theorem dX5_init_112 : decode cX5_init 112 = .ok (.iinc 1 1, 3) := by decide +kernel
theorem dX5_init_115 : decode cX5_init 115 = .ok (.goto (-17), 3) := by decide +kernel
theorem dX5_init_118 : decode cX5_init 118 = .ok (.return_, 1) := by decide +kernel
theorem dX5_in_0 : decode cX5_in 0 = .ok (.iload_n 0, 1) := by decide +kernel
theorem dX5_in_1 : decode cX5_in 1 = .ok (.iload_n 1, 1) := by decide +kernel
theorem dX5_in_2 : decode cX5_in 2 = .ok (.if_icmp .lt 12, 3) := by decide +kernel
theorem dX5_in_5 : decode cX5_in 5 = .ok (.iload_n 0, 1) := by decide +kernel
theorem dX5_in_6 : decode cX5_in 6 = .ok (.iload_n 2, 1) := by decide +kernel
theorem dX5_in_7 : decode cX5_in 7 = .ok (.if_icmp .gt 7, 3) := by decide +kernel
theorem dX5_in_10 : decode cX5_in 10 = .ok (.iconst 1, 1) := by decide +kernel
theorem dX5_in_11 : decode cX5_in 11 = .ok (.goto 4, 3) := by decide +kernel
theorem dX5_in_14 : decode cX5_in 14 = .ok (.iconst 0, 1) := by decide +kernel
theorem dX5_in_15 : decode cX5_in 15 = .ok (.ireturn, 1) := by decide +kernel
theorem dX5_has_0 : decode cX5_has 0 = .ok (.iload_n 0, 1) := by decide +kernel
theorem dX5_has_1 : decode cX5_has 1 = .ok (.iload_n 1, 1) := by decide +kernel
theorem dX5_has_2 : decode cX5_has 2 = .ok (.ishr, 1) := by decide +kernel
theorem dX5_has_3 : decode cX5_has 3 = .ok (.iconst 1, 1) := by decide +kernel
theorem dX5_has_4 : decode cX5_has 4 = .ok (.iand, 1) := by decide +kernel
theorem dX5_has_5 : decode cX5_has 5 = .ok (.iconst 1, 1) := by decide +kernel
theorem dX5_has_6 : decode cX5_has 6 = .ok (.if_icmp .ne 7, 3) := by decide +kernel
theorem dX5_has_9 : decode cX5_has 9 = .ok (.iconst 1, 1) := by decide +kernel
theorem dX5_has_10 : decode cX5_has 10 = .ok (.goto 4, 3) := by decide +kernel
theorem dX5_has_13 : decode cX5_has 13 = .ok (.iconst 0, 1) := by decide +kernel
theorem dX5_has_14 : decode cX5_has 14 = .ok (.ireturn, 1) := by decide +kernel
theorem dX5_bits_0 : decode cX5_bits 0 = .ok (.iconst 0, 1) := by decide +kernel
theorem dX5_bits_1 : decode cX5_bits 1 = .ok (.istore_n 1, 1) := by decide +kernel
theorem dX5_bits_2 : decode cX5_bits 2 = .ok (.iconst 0, 1) := by decide +kernel
theorem dX5_bits_3 : decode cX5_bits 3 = .ok (.istore_n 2, 1) := by decide +kernel
theorem dX5_bits_4 : decode cX5_bits 4 = .ok (.iload_n 2, 1) := by decide +kernel
theorem dX5_bits_5 : decode cX5_bits 5 = .ok (.bipush 12, 2) := by decide +kernel
theorem dX5_bits_7 : decode cX5_bits 7 = .ok (.if_icmp .ge 17, 3) := by decide +kernel
theorem dX5_bits_10 : decode cX5_bits 10 = .ok (.iload_n 1, 1) := by decide +kernel
theorem dX5_bits_11 : decode cX5_bits 11 = .ok (.iload_n 0, 1) := by decide +kernel
theorem dX5_bits_12 : decode cX5_bits 12 = .ok (.iload_n 2, 1) := by decide +kernel
theorem dX5_bits_13 : decode cX5_bits 13 = .ok (.ishr, 1) := by decide +kernel
theorem dX5_bits_14 : decode cX5_bits 14 = .ok (.iconst 1, 1) := by decide +kernel
theorem dX5_bits_15 : decode cX5_bits 15 = .ok (.iand, 1) := by decide +kernel
theorem dX5_bits_16 : decode cX5_bits 16 = .ok (.iadd, 1) := by decide +kernel
theorem dX5_bits_17 : decode cX5_bits 17 = .ok (.istore_n 1, 1) := by decide +kernel
theorem dX5_bits_18 : decode cX5_bits 18 = .ok (.iinc 2 1, 3) := by decide +kernel
theorem dX5_bits_21 : decode cX5_bits 21 = .ok (.goto (-17), 3) := by decide +kernel
theorem dX5_bits_24 : decode cX5_bits 24 = .ok (.iload_n 1, 1) := by decide +kernel
theorem dX5_bits_25 : decode cX5_bits 25 = .ok (.ireturn, 1) := by decide +kernel
theorem dX5_isPart_0 : decode cX5_isPart 0 = .ok (.iload_n 0, 1) := by decide +kernel
theorem dX5_isPart_1 : decode cX5_isPart 1 = .ok (.iconst 0, 1) := by decide +kernel
theorem dX5_isPart_2 : decode cX5_isPart 2 = .ok (.bipush 11, 2) := by decide +kernel
theorem dX5_isPart_4 : decode cX5_isPart 4 = .ok (.invokestatic 38, 3) := by decide +kernel
theorem dX5_isPart_7 : decode cX5_isPart 7 = .ok (.ireturn, 1) := by decide +kernel
theorem dX5_part_0 : decode cX5_part 0 = .ok (.iload_n 1, 1) := by decide +kernel
theorem dX5_part_1 : decode cX5_part 1 = .ok (.invokestatic 42, 3) := by decide +kernel
theorem dX5_part_4 : decode cX5_part 4 = .ok (.ifCond .ne 5, 3) := by decide +kernel
theorem dX5_part_7 : decode cX5_part 7 = .ok (.iconst (-1), 1) := by decide +kernel
theorem dX5_part_8 : decode cX5_part 8 = .ok (.ireturn, 1) := by decide +kernel
theorem dX5_part_9 : decode cX5_part 9 = .ok (.iload_n 2, 1) := by decide +kernel
theorem dX5_part_10 : decode cX5_part 10 = .ok (.iconst 0, 1) := by decide +kernel
theorem dX5_part_11 : decode cX5_part 11 = .ok (.bipush 99, 2) := by decide +kernel
theorem dX5_part_13 : decode cX5_part 13 = .ok (.invokestatic 38, 3) := by decide +kernel
theorem dX5_part_16 : decode cX5_part 16 = .ok (.ifCond .eq 13, 3) := by decide +kernel
theorem dX5_part_19 : decode cX5_part 19 = .ok (.iload_n 3, 1) := by decide +kernel
theorem dX5_part_20 : decode cX5_part 20 = .ok (.iconst 0, 1) := by decide +kernel
theorem dX5_part_21 : decode cX5_part 21 = .ok (.bipush 9, 2) := by decide +kernel
theorem dX5_part_23 : decode cX5_part 23 = .ok (.invokestatic 38, 3) := by decide +kernel
theorem dX5_part_26 : decode cX5_part 26 = .ok (.ifCond .ne 6, 3) := by decide +kernel
theorem dX5_part_29 : decode cX5_part 29 = .ok (.bipush (-2), 2) := by decide +kernel
theorem dX5_part_31 : decode cX5_part 31 = .ok (.ireturn, 1) := by decide +kernel
theorem dX5_part_32 : decode cX5_part 32 = .ok (.aload_n 0, 1) := by decide +kernel
theorem dX5_part_33 : decode cX5_part 33 = .ok (.getfield 7, 3) := by decide +kernel
theorem dX5_part_36 : decode cX5_part 36 = .ok (.iload_n 1, 1) := by decide +kernel
theorem dX5_part_37 : decode cX5_part 37 = .ok (.iaload, 1) := by decide +kernel
theorem dX5_part_38 : decode cX5_part 38 = .ok (.istore 4, 2) := by decide +kernel
theorem dX5_part_40 : decode cX5_part 40 = .ok (.aload_n 0, 1) := by decide +kernel
theorem dX5_part_41 : decode cX5_part 41 = .ok (.getfield 7, 3) := by decide +kernel
theorem dX5_part_44 : decode cX5_part 44 = .ok (.iload_n 1, 1) := by decide +kernel
theorem dX5_part_45 : decode cX5_part 45 = .ok (.iload_n 2, 1) := by decide +kernel
theorem dX5_part_46 : decode cX5_part 46 = .ok (.iastore, 1) := by decide +kernel
theorem dX5_part_47 : decode cX5_part 47 = .ok (.aload_n 0, 1) := by decide +kernel
theorem dX5_part_48 : decode cX5_part 48 = .ok (.getfield 16, 3) := by decide +kernel
theorem dX5_part_51 : decode cX5_part 51 = .ok (.iload_n 1, 1) := by decide +kernel
theorem dX5_part_52 : decode cX5_part 52 = .ok (.iload_n 3, 1) := by decide +kernel
theorem dX5_part_53 : decode cX5_part 53 = .ok (.iastore, 1) := by decide +kernel
theorem dX5_part_54 : decode cX5_part 54 = .ok (.iload 4, 2) := by decide +kernel
theorem dX5_part_56 : decode cX5_part 56 = .ok (.ireturn, 1) := by decide +kernel
theorem dX5_thread_0 : decode cX5_thread 0 = .ok (.iload_n 1, 1) := by decide +kernel
theorem dX5_thread_1 : decode cX5_thread 1 = .ok (.invokestatic 42, 3) := by decide +kernel
theorem dX5_thread_4 : decode cX5_thread 4 = .ok (.ifCond .ne 5, 3) := by decide +kernel
theorem dX5_thread_7 : decode cX5_thread 7 = .ok (.iconst (-1), 1) := by decide +kernel
theorem dX5_thread_8 : decode cX5_thread 8 = .ok (.ireturn, 1) := by decide +kernel
theorem dX5_thread_9 : decode cX5_thread 9 = .ok (.aload_n 0, 1) := by decide +kernel
theorem dX5_thread_10 : decode cX5_thread 10 = .ok (.dup, 1) := by decide +kernel
theorem dX5_thread_11 : decode cX5_thread 11 = .ok (.getfield 46, 3) := by decide +kernel
theorem dX5_thread_14 : decode cX5_thread 14 = .ok (.iconst 1, 1) := by decide +kernel
theorem dX5_thread_15 : decode cX5_thread 15 = .ok (.iload_n 1, 1) := by decide +kernel
theorem dX5_thread_16 : decode cX5_thread 16 = .ok (.ishl, 1) := by decide +kernel
theorem dX5_thread_17 : decode cX5_thread 17 = .ok (.iconst (-1), 1) := by decide +kernel
theorem dX5_thread_18 : decode cX5_thread 18 = .ok (.ixor, 1) := by decide +kernel
theorem dX5_thread_19 : decode cX5_thread 19 = .ok (.iand, 1) := by decide +kernel
theorem dX5_thread_20 : decode cX5_thread 20 = .ok (.putfield 46, 3) := by decide +kernel
theorem dX5_thread_23 : decode cX5_thread 23 = .ok (.aload_n 0, 1) := by decide +kernel
theorem dX5_thread_24 : decode cX5_thread 24 = .ok (.dup, 1) := by decide +kernel
theorem dX5_thread_25 : decode cX5_thread 25 = .ok (.getfield 46, 3) := by decide +kernel
theorem dX5_thread_28 : decode cX5_thread 28 = .ok (.iload_n 2, 1) := by decide +kernel
theorem dX5_thread_29 : decode cX5_thread 29 = .ok (.ifCond .eq 9, 3) := by decide +kernel
theorem dX5_thread_32 : decode cX5_thread 32 = .ok (.iconst 1, 1) := by decide +kernel
theorem dX5_thread_33 : decode cX5_thread 33 = .ok (.iload_n 1, 1) := by decide +kernel
theorem dX5_thread_34 : decode cX5_thread 34 = .ok (.ishl, 1) := by decide +kernel
theorem dX5_thread_35 : decode cX5_thread 35 = .ok (.goto 4, 3) := by decide +kernel
theorem dX5_thread_38 : decode cX5_thread 38 = .ok (.iconst 0, 1) := by decide +kernel
theorem dX5_thread_39 : decode cX5_thread 39 = .ok (.ior, 1) := by decide +kernel
theorem dX5_thread_40 : decode cX5_thread 40 = .ok (.putfield 46, 3) := by decide +kernel
theorem dX5_thread_43 : decode cX5_thread 43 = .ok (.aload_n 0, 1) := by decide +kernel
theorem dX5_thread_44 : decode cX5_thread 44 = .ok (.getfield 46, 3) := by decide +kernel
theorem dX5_thread_47 : decode cX5_thread 47 = .ok (.invokestatic 50, 3) := by decide +kernel
theorem dX5_thread_50 : decode cX5_thread 50 = .ok (.ireturn, 1) := by decide +kernel
theorem dX5_set_0 : decode cX5_set 0 = .ok (.iload_n 1, 1) := by decide +kernel
theorem dX5_set_1 : decode cX5_set 1 = .ok (.iconst 1, 1) := by decide +kernel
theorem dX5_set_2 : decode cX5_set 2 = .ok (.if_icmp .ne 13, 3) := by decide +kernel
theorem dX5_set_5 : decode cX5_set 5 = .ok (.iload_n 2, 1) := by decide +kernel
theorem dX5_set_6 : decode cX5_set 6 = .ok (.iconst 0, 1) := by decide +kernel
theorem dX5_set_7 : decode cX5_set 7 = .ok (.bipush 12, 2) := by decide +kernel
theorem dX5_set_9 : decode cX5_set 9 = .ok (.invokestatic 38, 3) := by decide +kernel
theorem dX5_set_12 : decode cX5_set 12 = .ok (.goto 27, 3) := by decide +kernel
theorem dX5_set_15 : decode cX5_set 15 = .ok (.iload_n 1, 1) := by decide +kernel
theorem dX5_set_16 : decode cX5_set 16 = .ok (.iconst 0, 1) := by decide +kernel
theorem dX5_set_17 : decode cX5_set 17 = .ok (.iconst 2, 1) := by decide +kernel
theorem dX5_set_18 : decode cX5_set 18 = .ok (.invokestatic 38, 3) := by decide +kernel
theorem dX5_set_21 : decode cX5_set 21 = .ok (.ifCond .eq 17, 3) := by decide +kernel
theorem dX5_set_24 : decode cX5_set 24 = .ok (.iload_n 2, 1) := by decide +kernel
theorem dX5_set_25 : decode cX5_set 25 = .ok (.iconst 0, 1) := by decide +kernel
theorem dX5_set_26 : decode cX5_set 26 = .ok (.bipush 99, 2) := by decide +kernel
theorem dX5_set_28 : decode cX5_set 28 = .ok (.invokestatic 38, 3) := by decide +kernel
theorem dX5_set_31 : decode cX5_set 31 = .ok (.ifCond .eq 7, 3) := by decide +kernel
theorem dX5_set_34 : decode cX5_set 34 = .ok (.iconst 1, 1) := by decide +kernel
theorem dX5_set_35 : decode cX5_set 35 = .ok (.goto 4, 3) := by decide +kernel
theorem dX5_set_38 : decode cX5_set 38 = .ok (.iconst 0, 1) := by decide +kernel
theorem dX5_set_39 : decode cX5_set 39 = .ok (.istore_n 3, 1) := by decide +kernel
theorem dX5_set_40 : decode cX5_set 40 = .ok (.iload_n 3, 1) := by decide +kernel
theorem dX5_set_41 : decode cX5_set 41 = .ok (.ifCond .ne 6, 3) := by decide +kernel
theorem dX5_set_44 : decode cX5_set 44 = .ok (.bipush (-2), 2) := by decide +kernel
theorem dX5_set_46 : decode cX5_set 46 = .ok (.ireturn, 1) := by decide +kernel
theorem dX5_set_47 : decode cX5_set 47 = .ok (.aload_n 0, 1) := by decide +kernel
theorem dX5_set_48 : decode cX5_set 48 = .ok (.getfield 7, 3) := by decide +kernel
theorem dX5_set_51 : decode cX5_set 51 = .ok (.bipush 12, 2) := by decide +kernel
theorem dX5_set_53 : decode cX5_set 53 = .ok (.iload_n 1, 1) := by decide +kernel
theorem dX5_set_54 : decode cX5_set 54 = .ok (.iadd, 1) := by decide +kernel
theorem dX5_set_55 : decode cX5_set 55 = .ok (.iaload, 1) := by decide +kernel
theorem dX5_set_56 : decode cX5_set 56 = .ok (.istore 4, 2) := by decide +kernel
theorem dX5_set_58 : decode cX5_set 58 = .ok (.aload_n 0, 1) := by decide +kernel
theorem dX5_set_59 : decode cX5_set 59 = .ok (.getfield 7, 3) := by decide +kernel
theorem dX5_set_62 : decode cX5_set 62 = .ok (.bipush 12, 2) := by decide +kernel
theorem dX5_set_64 : decode cX5_set 64 = .ok (.iload_n 1, 1) := by decide +kernel
theorem dX5_set_65 : decode cX5_set 65 = .ok (.iadd, 1) := by decide +kernel
theorem dX5_set_66 : decode cX5_set 66 = .ok (.iload_n 2, 1) := by decide +kernel
theorem dX5_set_67 : decode cX5_set 67 = .ok (.iastore, 1) := by decide +kernel
theorem dX5_set_68 : decode cX5_set 68 = .ok (.iload 4, 2) := by decide +kernel
theorem dX5_set_70 : decode cX5_set 70 = .ok (.ireturn, 1) := by decide +kernel
theorem dX5_man_0 : decode cX5_man 0 = .ok (.iload_n 1, 1) := by decide +kernel
theorem dX5_man_1 : decode cX5_man 1 = .ok (.iconst 0, 1) := by decide +kernel
theorem dX5_man_2 : decode cX5_man 2 = .ok (.bipush 7, 2) := by decide +kernel
theorem dX5_man_4 : decode cX5_man 4 = .ok (.invokestatic 38, 3) := by decide +kernel
theorem dX5_man_7 : decode cX5_man 7 = .ok (.ifCond .ne 5, 3) := by decide +kernel
theorem dX5_man_10 : decode cX5_man 10 = .ok (.iconst (-1), 1) := by decide +kernel
theorem dX5_man_11 : decode cX5_man 11 = .ok (.ireturn, 1) := by decide +kernel
theorem dX5_man_12 : decode cX5_man 12 = .ok (.iload_n 2, 1) := by decide +kernel
theorem dX5_man_13 : decode cX5_man 13 = .ok (.iconst 0, 1) := by decide +kernel
theorem dX5_man_14 : decode cX5_man 14 = .ok (.bipush 8, 2) := by decide +kernel
theorem dX5_man_16 : decode cX5_man 16 = .ok (.invokestatic 38, 3) := by decide +kernel
theorem dX5_man_19 : decode cX5_man 19 = .ok (.ifCond .ne 6, 3) := by decide +kernel
theorem dX5_man_22 : decode cX5_man 22 = .ok (.bipush (-2), 2) := by decide +kernel
theorem dX5_man_24 : decode cX5_man 24 = .ok (.ireturn, 1) := by decide +kernel
theorem dX5_man_25 : decode cX5_man 25 = .ok (.aload_n 0, 1) := by decide +kernel
theorem dX5_man_26 : decode cX5_man 26 = .ok (.getfield 19, 3) := by decide +kernel
theorem dX5_man_29 : decode cX5_man 29 = .ok (.iload_n 1, 1) := by decide +kernel
theorem dX5_man_30 : decode cX5_man 30 = .ok (.iaload, 1) := by decide +kernel
theorem dX5_man_31 : decode cX5_man 31 = .ok (.istore_n 3, 1) := by decide +kernel
theorem dX5_man_32 : decode cX5_man 32 = .ok (.aload_n 0, 1) := by decide +kernel
theorem dX5_man_33 : decode cX5_man 33 = .ok (.getfield 19, 3) := by decide +kernel
theorem dX5_man_36 : decode cX5_man 36 = .ok (.iload_n 1, 1) := by decide +kernel
theorem dX5_man_37 : decode cX5_man 37 = .ok (.iload_n 2, 1) := by decide +kernel
theorem dX5_man_38 : decode cX5_man 38 = .ok (.iastore, 1) := by decide +kernel
theorem dX5_man_39 : decode cX5_man 39 = .ok (.iload_n 3, 1) := by decide +kernel
theorem dX5_man_40 : decode cX5_man 40 = .ok (.ireturn, 1) := by decide +kernel
theorem dX5_say_0 : decode cX5_say 0 = .ok (.iload_n 1, 1) := by decide +kernel
theorem dX5_say_1 : decode cX5_say 1 = .ok (.bipush 33, 2) := by decide +kernel
theorem dX5_say_3 : decode cX5_say 3 = .ok (.bipush 126, 2) := by decide +kernel
theorem dX5_say_5 : decode cX5_say 5 = .ok (.invokestatic 38, 3) := by decide +kernel
theorem dX5_say_8 : decode cX5_say 8 = .ok (.ifCond .ne 6, 3) := by decide +kernel
theorem dX5_say_11 : decode cX5_say 11 = .ok (.bipush (-2), 2) := by decide +kernel
theorem dX5_say_13 : decode cX5_say 13 = .ok (.ireturn, 1) := by decide +kernel
theorem dX5_say_14 : decode cX5_say 14 = .ok (.aload_n 0, 1) := by decide +kernel
theorem dX5_say_15 : decode cX5_say 15 = .ok (.getfield 54, 3) := by decide +kernel
theorem dX5_say_18 : decode cX5_say 18 = .ok (.bipush 60, 2) := by decide +kernel
theorem dX5_say_20 : decode cX5_say 20 = .ok (.if_icmp .ne 6, 3) := by decide +kernel
theorem dX5_say_23 : decode cX5_say 23 = .ok (.bipush (-4), 2) := by decide +kernel
theorem dX5_say_25 : decode cX5_say 25 = .ok (.ireturn, 1) := by decide +kernel
theorem dX5_say_26 : decode cX5_say 26 = .ok (.aload_n 0, 1) := by decide +kernel
theorem dX5_say_27 : decode cX5_say 27 = .ok (.getfield 25, 3) := by decide +kernel
theorem dX5_say_30 : decode cX5_say 30 = .ok (.aload_n 0, 1) := by decide +kernel
theorem dX5_say_31 : decode cX5_say 31 = .ok (.getfield 54, 3) := by decide +kernel
theorem dX5_say_34 : decode cX5_say 34 = .ok (.iload_n 1, 1) := by decide +kernel
theorem dX5_say_35 : decode cX5_say 35 = .ok (.iastore, 1) := by decide +kernel
theorem dX5_say_36 : decode cX5_say 36 = .ok (.aload_n 0, 1) := by decide +kernel
theorem dX5_say_37 : decode cX5_say 37 = .ok (.dup, 1) := by decide +kernel
theorem dX5_say_38 : decode cX5_say 38 = .ok (.getfield 54, 3) := by decide +kernel
theorem dX5_say_41 : decode cX5_say 41 = .ok (.iconst 1, 1) := by decide +kernel
theorem dX5_say_42 : decode cX5_say 42 = .ok (.iadd, 1) := by decide +kernel
theorem dX5_say_43 : decode cX5_say 43 = .ok (.putfield 54, 3) := by decide +kernel
theorem dX5_say_46 : decode cX5_say 46 = .ok (.aload_n 0, 1) := by decide +kernel
theorem dX5_say_47 : decode cX5_say 47 = .ok (.getfield 54, 3) := by decide +kernel
theorem dX5_say_50 : decode cX5_say 50 = .ok (.ireturn, 1) := by decide +kernel
theorem dX5_wipe_0 : decode cX5_wipe 0 = .ok (.aload_n 0, 1) := by decide +kernel
theorem dX5_wipe_1 : decode cX5_wipe 1 = .ok (.getfield 54, 3) := by decide +kernel
theorem dX5_wipe_4 : decode cX5_wipe 4 = .ok (.istore_n 1, 1) := by decide +kernel
theorem dX5_wipe_5 : decode cX5_wipe 5 = .ok (.aload_n 0, 1) := by decide +kernel
theorem dX5_wipe_6 : decode cX5_wipe 6 = .ok (.iconst 0, 1) := by decide +kernel
theorem dX5_wipe_7 : decode cX5_wipe 7 = .ok (.putfield 54, 3) := by decide +kernel
theorem dX5_wipe_10 : decode cX5_wipe 10 = .ok (.iload_n 1, 1) := by decide +kernel
theorem dX5_wipe_11 : decode cX5_wipe 11 = .ok (.ireturn, 1) := by decide +kernel
theorem dX5_faultOf_0 : decode cX5_faultOf 0 = .ok (.iconst 0, 1) := by decide +kernel
theorem dX5_faultOf_1 : decode cX5_faultOf 1 = .ok (.istore_n 1, 1) := by decide +kernel
theorem dX5_faultOf_2 : decode cX5_faultOf 2 = .ok (.iconst 0, 1) := by decide +kernel
theorem dX5_faultOf_3 : decode cX5_faultOf 3 = .ok (.istore_n 2, 1) := by decide +kernel
theorem dX5_faultOf_4 : decode cX5_faultOf 4 = .ok (.iload_n 2, 1) := by decide +kernel
theorem dX5_faultOf_5 : decode cX5_faultOf 5 = .ok (.aload_n 0, 1) := by decide +kernel
theorem dX5_faultOf_6 : decode cX5_faultOf 6 = .ok (.getfield 54, 3) := by decide +kernel
theorem dX5_faultOf_9 : decode cX5_faultOf 9 = .ok (.if_icmp .ge 85, 3) := by decide +kernel
theorem dX5_faultOf_12 : decode cX5_faultOf 12 = .ok (.aload_n 0, 1) := by decide +kernel
theorem dX5_faultOf_13 : decode cX5_faultOf 13 = .ok (.getfield 25, 3) := by decide +kernel
theorem dX5_faultOf_16 : decode cX5_faultOf 16 = .ok (.iload_n 2, 1) := by decide +kernel
theorem dX5_faultOf_17 : decode cX5_faultOf 17 = .ok (.iaload, 1) := by decide +kernel
theorem dX5_faultOf_18 : decode cX5_faultOf 18 = .ok (.istore_n 3, 1) := by decide +kernel
theorem dX5_faultOf_19 : decode cX5_faultOf 19 = .ok (.iload_n 1, 1) := by decide +kernel
theorem dX5_faultOf_20 : decode cX5_faultOf 20 = .ok (.ifCond .eq 14, 3) := by decide +kernel
theorem dX5_faultOf_23 : decode cX5_faultOf 23 = .ok (.iload_n 3, 1) := by decide +kernel
theorem dX5_faultOf_24 : decode cX5_faultOf 24 = .ok (.bipush 48, 2) := by decide +kernel
theorem dX5_faultOf_26 : decode cX5_faultOf 26 = .ok (.bipush 57, 2) := by decide +kernel
theorem dX5_faultOf_28 : decode cX5_faultOf 28 = .ok (.invokestatic 38, 3) := by decide +kernel
theorem dX5_faultOf_31 : decode cX5_faultOf 31 = .ok (.goto 32, 3) := by decide +kernel
theorem dX5_faultOf_34 : decode cX5_faultOf 34 = .ok (.iload_n 3, 1) := by decide +kernel
theorem dX5_faultOf_35 : decode cX5_faultOf 35 = .ok (.bipush 46, 2) := by decide +kernel
theorem dX5_faultOf_37 : decode cX5_faultOf 37 = .ok (.if_icmp .eq 21, 3) := by decide +kernel
theorem dX5_faultOf_40 : decode cX5_faultOf 40 = .ok (.iload_n 3, 1) := by decide +kernel
theorem dX5_faultOf_41 : decode cX5_faultOf 41 = .ok (.bipush 104, 2) := by decide +kernel
theorem dX5_faultOf_43 : decode cX5_faultOf 43 = .ok (.if_icmp .eq 15, 3) := by decide +kernel
theorem dX5_faultOf_46 : decode cX5_faultOf 46 = .ok (.iload_n 3, 1) := by decide +kernel
theorem dX5_faultOf_47 : decode cX5_faultOf 47 = .ok (.bipush 33, 2) := by decide +kernel
theorem dX5_faultOf_49 : decode cX5_faultOf 49 = .ok (.if_icmp .eq 9, 3) := by decide +kernel
theorem dX5_faultOf_52 : decode cX5_faultOf 52 = .ok (.iload_n 3, 1) := by decide +kernel
theorem dX5_faultOf_53 : decode cX5_faultOf 53 = .ok (.bipush 110, 2) := by decide +kernel
theorem dX5_faultOf_55 : decode cX5_faultOf 55 = .ok (.if_icmp .ne 7, 3) := by decide +kernel
theorem dX5_faultOf_58 : decode cX5_faultOf 58 = .ok (.iconst 1, 1) := by decide +kernel
theorem dX5_faultOf_59 : decode cX5_faultOf 59 = .ok (.goto 4, 3) := by decide +kernel
theorem dX5_faultOf_62 : decode cX5_faultOf 62 = .ok (.iconst 0, 1) := by decide +kernel
theorem dX5_faultOf_63 : decode cX5_faultOf 63 = .ok (.istore 4, 2) := by decide +kernel
theorem dX5_faultOf_65 : decode cX5_faultOf 65 = .ok (.iload 4, 2) := by decide +kernel
theorem dX5_faultOf_67 : decode cX5_faultOf 67 = .ok (.ifCond .ne 5, 3) := by decide +kernel
theorem dX5_faultOf_70 : decode cX5_faultOf 70 = .ok (.iload_n 2, 1) := by decide +kernel
theorem dX5_faultOf_71 : decode cX5_faultOf 71 = .ok (.ireturn, 1) := by decide +kernel
theorem dX5_faultOf_72 : decode cX5_faultOf 72 = .ok (.iload_n 1, 1) := by decide +kernel
theorem dX5_faultOf_73 : decode cX5_faultOf 73 = .ok (.ifCond .ne 13, 3) := by decide +kernel
theorem dX5_faultOf_76 : decode cX5_faultOf 76 = .ok (.iload_n 3, 1) := by decide +kernel
theorem dX5_faultOf_77 : decode cX5_faultOf 77 = .ok (.bipush 104, 2) := by decide +kernel
theorem dX5_faultOf_79 : decode cX5_faultOf 79 = .ok (.if_icmp .ne 7, 3) := by decide +kernel
theorem dX5_faultOf_82 : decode cX5_faultOf 82 = .ok (.iconst 1, 1) := by decide +kernel
theorem dX5_faultOf_83 : decode cX5_faultOf 83 = .ok (.goto 4, 3) := by decide +kernel
theorem dX5_faultOf_86 : decode cX5_faultOf 86 = .ok (.iconst 0, 1) := by decide +kernel
theorem dX5_faultOf_87 : decode cX5_faultOf 87 = .ok (.istore_n 1, 1) := by decide +kernel
theorem dX5_faultOf_88 : decode cX5_faultOf 88 = .ok (.iinc 2 1, 3) := by decide +kernel
theorem dX5_faultOf_91 : decode cX5_faultOf 91 = .ok (.goto (-87), 3) := by decide +kernel
theorem dX5_faultOf_94 : decode cX5_faultOf 94 = .ok (.iload_n 1, 1) := by decide +kernel
theorem dX5_faultOf_95 : decode cX5_faultOf 95 = .ok (.ifCond .eq 10, 3) := by decide +kernel
theorem dX5_faultOf_98 : decode cX5_faultOf 98 = .ok (.aload_n 0, 1) := by decide +kernel
theorem dX5_faultOf_99 : decode cX5_faultOf 99 = .ok (.getfield 54, 3) := by decide +kernel
theorem dX5_faultOf_102 : decode cX5_faultOf 102 = .ok (.goto 5, 3) := by decide +kernel
theorem dX5_faultOf_105 : decode cX5_faultOf 105 = .ok (.bipush (-6), 2) := by decide +kernel
theorem dX5_faultOf_107 : decode cX5_faultOf 107 = .ok (.ireturn, 1) := by decide +kernel
theorem dX5_fault_0 : decode cX5_fault 0 = .ok (.aload_n 0, 1) := by decide +kernel
theorem dX5_fault_1 : decode cX5_fault 1 = .ok (.invokevirtual 57, 3) := by decide +kernel
theorem dX5_fault_4 : decode cX5_fault 4 = .ok (.ireturn, 1) := by decide +kernel
theorem dX5_asNow_0 : decode cX5_asNow 0 = .ok (.iconst 0, 1) := by decide +kernel
theorem dX5_asNow_1 : decode cX5_asNow 1 = .ok (.istore_n 1, 1) := by decide +kernel
theorem dX5_asNow_2 : decode cX5_asNow 2 = .ok (.iload_n 1, 1) := by decide +kernel
theorem dX5_asNow_3 : decode cX5_asNow 3 = .ok (.bipush 15, 2) := by decide +kernel
theorem dX5_asNow_5 : decode cX5_asNow 5 = .ok (.if_icmp .ge 21, 3) := by decide +kernel
theorem dX5_asNow_8 : decode cX5_asNow 8 = .ok (.aload_n 0, 1) := by decide +kernel
theorem dX5_asNow_9 : decode cX5_asNow 9 = .ok (.getfield 13, 3) := by decide +kernel
theorem dX5_asNow_12 : decode cX5_asNow 12 = .ok (.iload_n 1, 1) := by decide +kernel
theorem dX5_asNow_13 : decode cX5_asNow 13 = .ok (.aload_n 0, 1) := by decide +kernel
theorem dX5_asNow_14 : decode cX5_asNow 14 = .ok (.getfield 7, 3) := by decide +kernel
theorem dX5_asNow_17 : decode cX5_asNow 17 = .ok (.iload_n 1, 1) := by decide +kernel
theorem dX5_asNow_18 : decode cX5_asNow 18 = .ok (.iaload, 1) := by decide +kernel
theorem dX5_asNow_19 : decode cX5_asNow 19 = .ok (.iastore, 1) := by decide +kernel
theorem dX5_asNow_20 : decode cX5_asNow 20 = .ok (.iinc 1 1, 3) := by decide +kernel
theorem dX5_asNow_23 : decode cX5_asNow 23 = .ok (.goto (-21), 3) := by decide +kernel
theorem dX5_asNow_26 : decode cX5_asNow 26 = .ok (.return_, 1) := by decide +kernel
theorem dX5_less_0 : decode cX5_less 0 = .ok (.aload_n 0, 1) := by decide +kernel
theorem dX5_less_1 : decode cX5_less 1 = .ok (.getfield 46, 3) := by decide +kernel
theorem dX5_less_4 : decode cX5_less 4 = .ok (.iload_n 1, 1) := by decide +kernel
theorem dX5_less_5 : decode cX5_less 5 = .ok (.invokestatic 61, 3) := by decide +kernel
theorem dX5_less_8 : decode cX5_less 8 = .ok (.ifCond .eq 16, 3) := by decide +kernel
theorem dX5_less_11 : decode cX5_less 11 = .ok (.aload_n 0, 1) := by decide +kernel
theorem dX5_less_12 : decode cX5_less 12 = .ok (.getfield 13, 3) := by decide +kernel
theorem dX5_less_15 : decode cX5_less 15 = .ok (.iload_n 1, 1) := by decide +kernel
theorem dX5_less_16 : decode cX5_less 16 = .ok (.iaload, 1) := by decide +kernel
theorem dX5_less_17 : decode cX5_less 17 = .ok (.ifCond .le 7, 3) := by decide +kernel
theorem dX5_less_20 : decode cX5_less 20 = .ok (.iconst 1, 1) := by decide +kernel
theorem dX5_less_21 : decode cX5_less 21 = .ok (.goto 4, 3) := by decide +kernel
theorem dX5_less_24 : decode cX5_less 24 = .ok (.iconst 0, 1) := by decide +kernel
theorem dX5_less_25 : decode cX5_less 25 = .ok (.istore_n 3, 1) := by decide +kernel
theorem dX5_less_26 : decode cX5_less 26 = .ok (.aload_n 0, 1) := by decide +kernel
theorem dX5_less_27 : decode cX5_less 27 = .ok (.getfield 13, 3) := by decide +kernel
theorem dX5_less_30 : decode cX5_less 30 = .ok (.iload_n 1, 1) := by decide +kernel
theorem dX5_less_31 : decode cX5_less 31 = .ok (.aload_n 0, 1) := by decide +kernel
theorem dX5_less_32 : decode cX5_less 32 = .ok (.getfield 13, 3) := by decide +kernel
theorem dX5_less_35 : decode cX5_less 35 = .ok (.iload_n 1, 1) := by decide +kernel
theorem dX5_less_36 : decode cX5_less 36 = .ok (.iaload, 1) := by decide +kernel
theorem dX5_less_37 : decode cX5_less 37 = .ok (.iload_n 2, 1) := by decide +kernel
theorem dX5_less_38 : decode cX5_less 38 = .ok (.isub, 1) := by decide +kernel
theorem dX5_less_39 : decode cX5_less 39 = .ok (.iload_n 3, 1) := by decide +kernel
theorem dX5_less_40 : decode cX5_less 40 = .ok (.if_icmp .ge 7, 3) := by decide +kernel
theorem dX5_less_43 : decode cX5_less 43 = .ok (.iload_n 3, 1) := by decide +kernel
theorem dX5_less_44 : decode cX5_less 44 = .ok (.goto 11, 3) := by decide +kernel
theorem dX5_less_47 : decode cX5_less 47 = .ok (.aload_n 0, 1) := by decide +kernel
theorem dX5_less_48 : decode cX5_less 48 = .ok (.getfield 13, 3) := by decide +kernel
theorem dX5_less_51 : decode cX5_less 51 = .ok (.iload_n 1, 1) := by decide +kernel
theorem dX5_less_52 : decode cX5_less 52 = .ok (.iaload, 1) := by decide +kernel
theorem dX5_less_53 : decode cX5_less 53 = .ok (.iload_n 2, 1) := by decide +kernel
theorem dX5_less_54 : decode cX5_less 54 = .ok (.isub, 1) := by decide +kernel
theorem dX5_less_55 : decode cX5_less 55 = .ok (.iastore, 1) := by decide +kernel
theorem dX5_less_56 : decode cX5_less 56 = .ok (.return_, 1) := by decide +kernel
theorem dX5_shakes_0 : decode cX5_shakes 0 = .ok (.iload_n 0, 1) := by decide +kernel
theorem dX5_shakes_1 : decode cX5_shakes 1 = .ok (.iload_n 1, 1) := by decide +kernel
theorem dX5_shakes_2 : decode cX5_shakes 2 = .ok (.if_icmp .le 9, 3) := by decide +kernel
theorem dX5_shakes_5 : decode cX5_shakes 5 = .ok (.iload_n 0, 1) := by decide +kernel
theorem dX5_shakes_6 : decode cX5_shakes 6 = .ok (.iload_n 1, 1) := by decide +kernel
theorem dX5_shakes_7 : decode cX5_shakes 7 = .ok (.isub, 1) := by decide +kernel
theorem dX5_shakes_8 : decode cX5_shakes 8 = .ok (.goto 6, 3) := by decide +kernel
theorem dX5_shakes_11 : decode cX5_shakes 11 = .ok (.iload_n 1, 1) := by decide +kernel
theorem dX5_shakes_12 : decode cX5_shakes 12 = .ok (.iload_n 0, 1) := by decide +kernel
theorem dX5_shakes_13 : decode cX5_shakes 13 = .ok (.isub, 1) := by decide +kernel
theorem dX5_shakes_14 : decode cX5_shakes 14 = .ok (.istore_n 2, 1) := by decide +kernel
theorem dX5_shakes_15 : decode cX5_shakes 15 = .ok (.iload_n 2, 1) := by decide +kernel
theorem dX5_shakes_16 : decode cX5_shakes 16 = .ok (.iconst 2, 1) := by decide +kernel
theorem dX5_shakes_17 : decode cX5_shakes 17 = .ok (.if_icmp .le 7, 3) := by decide +kernel
theorem dX5_shakes_20 : decode cX5_shakes 20 = .ok (.iconst 0, 1) := by decide +kernel
theorem dX5_shakes_21 : decode cX5_shakes 21 = .ok (.goto 6, 3) := by decide +kernel
theorem dX5_shakes_24 : decode cX5_shakes 24 = .ok (.iconst 2, 1) := by decide +kernel
theorem dX5_shakes_25 : decode cX5_shakes 25 = .ok (.iload_n 2, 1) := by decide +kernel
theorem dX5_shakes_26 : decode cX5_shakes 26 = .ok (.isub, 1) := by decide +kernel
theorem dX5_shakes_27 : decode cX5_shakes 27 = .ok (.ireturn, 1) := by decide +kernel
theorem dX5_blow_0 : decode cX5_blow 0 = .ok (.iconst 0, 1) := by decide +kernel
theorem dX5_blow_1 : decode cX5_blow 1 = .ok (.istore_n 2, 1) := by decide +kernel
theorem dX5_blow_2 : decode cX5_blow 2 = .ok (.iload_n 2, 1) := by decide +kernel
theorem dX5_blow_3 : decode cX5_blow 3 = .ok (.bipush 12, 2) := by decide +kernel
theorem dX5_blow_5 : decode cX5_blow 5 = .ok (.if_icmp .ge 24, 3) := by decide +kernel
theorem dX5_blow_8 : decode cX5_blow 8 = .ok (.aload_n 0, 1) := by decide +kernel
theorem dX5_blow_9 : decode cX5_blow 9 = .ok (.iload_n 2, 1) := by decide +kernel
theorem dX5_blow_10 : decode cX5_blow 10 = .ok (.iload_n 1, 1) := by decide +kernel
theorem dX5_blow_11 : decode cX5_blow 11 = .ok (.aload_n 0, 1) := by decide +kernel
theorem dX5_blow_12 : decode cX5_blow 12 = .ok (.getfield 16, 3) := by decide +kernel
theorem dX5_blow_15 : decode cX5_blow 15 = .ok (.iload_n 2, 1) := by decide +kernel
theorem dX5_blow_16 : decode cX5_blow 16 = .ok (.iaload, 1) := by decide +kernel
theorem dX5_blow_17 : decode cX5_blow 17 = .ok (.invokestatic 65, 3) := by decide +kernel
theorem dX5_blow_20 : decode cX5_blow 20 = .ok (.invokevirtual 69, 3) := by decide +kernel
theorem dX5_blow_23 : decode cX5_blow 23 = .ok (.iinc 2 1, 3) := by decide +kernel
theorem dX5_blow_26 : decode cX5_blow 26 = .ok (.goto (-24), 3) := by decide +kernel
theorem dX5_blow_29 : decode cX5_blow 29 = .ok (.return_, 1) := by decide +kernel
theorem dX5_cry_0 : decode cX5_cry 0 = .ok (.iconst 0, 1) := by decide +kernel
theorem dX5_cry_1 : decode cX5_cry 1 = .ok (.istore_n 1, 1) := by decide +kernel
theorem dX5_cry_2 : decode cX5_cry 2 = .ok (.iload_n 1, 1) := by decide +kernel
theorem dX5_cry_3 : decode cX5_cry 3 = .ok (.bipush 12, 2) := by decide +kernel
theorem dX5_cry_5 : decode cX5_cry 5 = .ok (.if_icmp .ge 21, 3) := by decide +kernel
theorem dX5_cry_8 : decode cX5_cry 8 = .ok (.aload_n 0, 1) := by decide +kernel
theorem dX5_cry_9 : decode cX5_cry 9 = .ok (.iload_n 1, 1) := by decide +kernel
theorem dX5_cry_10 : decode cX5_cry 10 = .ok (.aload_n 0, 1) := by decide +kernel
theorem dX5_cry_11 : decode cX5_cry 11 = .ok (.getfield 13, 3) := by decide +kernel
theorem dX5_cry_14 : decode cX5_cry 14 = .ok (.bipush 12, 2) := by decide +kernel
theorem dX5_cry_16 : decode cX5_cry 16 = .ok (.iaload, 1) := by decide +kernel
theorem dX5_cry_17 : decode cX5_cry 17 = .ok (.invokevirtual 69, 3) := by decide +kernel
theorem dX5_cry_20 : decode cX5_cry 20 = .ok (.iinc 1 1, 3) := by decide +kernel
theorem dX5_cry_23 : decode cX5_cry 23 = .ok (.goto (-21), 3) := by decide +kernel
theorem dX5_cry_26 : decode cX5_cry 26 = .ok (.aload_n 0, 1) := by decide +kernel
theorem dX5_cry_27 : decode cX5_cry 27 = .ok (.getfield 13, 3) := by decide +kernel
theorem dX5_cry_30 : decode cX5_cry 30 = .ok (.bipush 12, 2) := by decide +kernel
theorem dX5_cry_32 : decode cX5_cry 32 = .ok (.iconst 0, 1) := by decide +kernel
theorem dX5_cry_33 : decode cX5_cry 33 = .ok (.iastore, 1) := by decide +kernel
theorem dX5_cry_34 : decode cX5_cry 34 = .ok (.return_, 1) := by decide +kernel
theorem dX5_mend_0 : decode cX5_mend 0 = .ok (.iconst 0, 1) := by decide +kernel
theorem dX5_mend_1 : decode cX5_mend 1 = .ok (.istore_n 1, 1) := by decide +kernel
theorem dX5_mend_2 : decode cX5_mend 2 = .ok (.iconst 0, 1) := by decide +kernel
theorem dX5_mend_3 : decode cX5_mend 3 = .ok (.istore_n 2, 1) := by decide +kernel
theorem dX5_mend_4 : decode cX5_mend 4 = .ok (.iload_n 2, 1) := by decide +kernel
theorem dX5_mend_5 : decode cX5_mend 5 = .ok (.aload_n 0, 1) := by decide +kernel
theorem dX5_mend_6 : decode cX5_mend 6 = .ok (.getfield 13, 3) := by decide +kernel
theorem dX5_mend_9 : decode cX5_mend 9 = .ok (.bipush 13, 2) := by decide +kernel
theorem dX5_mend_11 : decode cX5_mend 11 = .ok (.iaload, 1) := by decide +kernel
theorem dX5_mend_12 : decode cX5_mend 12 = .ok (.if_icmp .ge 112, 3) := by decide +kernel
theorem dX5_mend_15 : decode cX5_mend 15 = .ok (.bipush (-6), 2) := by decide +kernel
theorem dX5_mend_17 : decode cX5_mend 17 = .ok (.istore_n 3, 1) := by decide +kernel
theorem dX5_mend_18 : decode cX5_mend 18 = .ok (.iconst 0, 1) := by decide +kernel
theorem dX5_mend_19 : decode cX5_mend 19 = .ok (.istore 4, 2) := by decide +kernel
theorem dX5_mend_21 : decode cX5_mend 21 = .ok (.iload 4, 2) := by decide +kernel
theorem dX5_mend_23 : decode cX5_mend 23 = .ok (.bipush 12, 2) := by decide +kernel
theorem dX5_mend_25 : decode cX5_mend 25 = .ok (.if_icmp .ge 79, 3) := by decide +kernel
theorem dX5_mend_28 : decode cX5_mend 28 = .ok (.iload_n 1, 1) := by decide +kernel
theorem dX5_mend_29 : decode cX5_mend 29 = .ok (.iload 4, 2) := by decide +kernel
theorem dX5_mend_31 : decode cX5_mend 31 = .ok (.invokestatic 61, 3) := by decide +kernel
theorem dX5_mend_34 : decode cX5_mend 34 = .ok (.ifCond .ne 29, 3) := by decide +kernel
theorem dX5_mend_37 : decode cX5_mend 37 = .ok (.aload_n 0, 1) := by decide +kernel
theorem dX5_mend_38 : decode cX5_mend 38 = .ok (.getfield 13, 3) := by decide +kernel
theorem dX5_mend_41 : decode cX5_mend 41 = .ok (.iload 4, 2) := by decide +kernel
theorem dX5_mend_43 : decode cX5_mend 43 = .ok (.iaload, 1) := by decide +kernel
theorem dX5_mend_44 : decode cX5_mend 44 = .ok (.ifCond .le 19, 3) := by decide +kernel
theorem dX5_mend_47 : decode cX5_mend 47 = .ok (.aload_n 0, 1) := by decide +kernel
theorem dX5_mend_48 : decode cX5_mend 48 = .ok (.getfield 13, 3) := by decide +kernel
theorem dX5_mend_51 : decode cX5_mend 51 = .ok (.iload 4, 2) := by decide +kernel
theorem dX5_mend_53 : decode cX5_mend 53 = .ok (.iaload, 1) := by decide +kernel
theorem dX5_mend_54 : decode cX5_mend 54 = .ok (.bipush 99, 2) := by decide +kernel
theorem dX5_mend_56 : decode cX5_mend 56 = .ok (.if_icmp .ge 7, 3) := by decide +kernel
theorem dX5_mend_59 : decode cX5_mend 59 = .ok (.iconst 1, 1) := by decide +kernel
theorem dX5_mend_60 : decode cX5_mend 60 = .ok (.goto 4, 3) := by decide +kernel
theorem dX5_mend_63 : decode cX5_mend 63 = .ok (.iconst 0, 1) := by decide +kernel
theorem dX5_mend_64 : decode cX5_mend 64 = .ok (.istore 5, 2) := by decide +kernel
theorem dX5_mend_66 : decode cX5_mend 66 = .ok (.iload 5, 2) := by decide +kernel
theorem dX5_mend_68 : decode cX5_mend 68 = .ok (.ifCond .eq 28, 3) := by decide +kernel
theorem dX5_mend_71 : decode cX5_mend 71 = .ok (.iload_n 3, 1) := by decide +kernel
theorem dX5_mend_72 : decode cX5_mend 72 = .ok (.ifCond .lt 19, 3) := by decide +kernel
theorem dX5_mend_75 : decode cX5_mend 75 = .ok (.aload_n 0, 1) := by decide +kernel
theorem dX5_mend_76 : decode cX5_mend 76 = .ok (.getfield 13, 3) := by decide +kernel
theorem dX5_mend_79 : decode cX5_mend 79 = .ok (.iload 4, 2) := by decide +kernel
theorem dX5_mend_81 : decode cX5_mend 81 = .ok (.iaload, 1) := by decide +kernel
theorem dX5_mend_82 : decode cX5_mend 82 = .ok (.aload_n 0, 1) := by decide +kernel
theorem dX5_mend_83 : decode cX5_mend 83 = .ok (.getfield 13, 3) := by decide +kernel
theorem dX5_mend_86 : decode cX5_mend 86 = .ok (.iload_n 3, 1) := by decide +kernel
theorem dX5_mend_87 : decode cX5_mend 87 = .ok (.iaload, 1) := by decide +kernel
theorem dX5_mend_88 : decode cX5_mend 88 = .ok (.if_icmp .ge 8, 3) := by decide +kernel
theorem dX5_mend_91 : decode cX5_mend 91 = .ok (.iload 4, 2) := by decide +kernel
theorem dX5_mend_93 : decode cX5_mend 93 = .ok (.goto 4, 3) := by decide +kernel
theorem dX5_mend_96 : decode cX5_mend 96 = .ok (.iload_n 3, 1) := by decide +kernel
theorem dX5_mend_97 : decode cX5_mend 97 = .ok (.istore_n 3, 1) := by decide +kernel
theorem dX5_mend_98 : decode cX5_mend 98 = .ok (.iinc 4 1, 3) := by decide +kernel
theorem dX5_mend_101 : decode cX5_mend 101 = .ok (.goto (-80), 3) := by decide +kernel
theorem dX5_mend_104 : decode cX5_mend 104 = .ok (.iload_n 1, 1) := by decide +kernel
theorem dX5_mend_105 : decode cX5_mend 105 = .ok (.iload_n 3, 1) := by decide +kernel
theorem dX5_mend_106 : decode cX5_mend 106 = .ok (.ifCond .ge 7, 3) := by decide +kernel
theorem dX5_mend_109 : decode cX5_mend 109 = .ok (.iconst 0, 1) := by decide +kernel
theorem dX5_mend_110 : decode cX5_mend 110 = .ok (.goto 6, 3) := by decide +kernel
theorem dX5_mend_113 : decode cX5_mend 113 = .ok (.iconst 1, 1) := by decide +kernel
theorem dX5_mend_114 : decode cX5_mend 114 = .ok (.iload_n 3, 1) := by decide +kernel
theorem dX5_mend_115 : decode cX5_mend 115 = .ok (.ishl, 1) := by decide +kernel
theorem dX5_mend_116 : decode cX5_mend 116 = .ok (.ior, 1) := by decide +kernel
theorem dX5_mend_117 : decode cX5_mend 117 = .ok (.istore_n 1, 1) := by decide +kernel
theorem dX5_mend_118 : decode cX5_mend 118 = .ok (.iinc 2 1, 3) := by decide +kernel
theorem dX5_mend_121 : decode cX5_mend 121 = .ok (.goto (-117), 3) := by decide +kernel
theorem dX5_mend_124 : decode cX5_mend 124 = .ok (.iconst 0, 1) := by decide +kernel
theorem dX5_mend_125 : decode cX5_mend 125 = .ok (.istore_n 2, 1) := by decide +kernel
theorem dX5_mend_126 : decode cX5_mend 126 = .ok (.iload_n 2, 1) := by decide +kernel
theorem dX5_mend_127 : decode cX5_mend 127 = .ok (.bipush 12, 2) := by decide +kernel
theorem dX5_mend_129 : decode cX5_mend 129 = .ok (.if_icmp .ge 31, 3) := by decide +kernel
theorem dX5_mend_132 : decode cX5_mend 132 = .ok (.aload_n 0, 1) := by decide +kernel
theorem dX5_mend_133 : decode cX5_mend 133 = .ok (.getfield 13, 3) := by decide +kernel
theorem dX5_mend_136 : decode cX5_mend 136 = .ok (.iload_n 2, 1) := by decide +kernel
theorem dX5_mend_137 : decode cX5_mend 137 = .ok (.dup2, 1) := by decide +kernel
theorem dX5_mend_138 : decode cX5_mend 138 = .ok (.iaload, 1) := by decide +kernel
theorem dX5_mend_139 : decode cX5_mend 139 = .ok (.iload_n 1, 1) := by decide +kernel
theorem dX5_mend_140 : decode cX5_mend 140 = .ok (.iload_n 2, 1) := by decide +kernel
theorem dX5_mend_141 : decode cX5_mend 141 = .ok (.invokestatic 61, 3) := by decide +kernel
theorem dX5_mend_144 : decode cX5_mend 144 = .ok (.ifCond .eq 7, 3) := by decide +kernel
theorem dX5_mend_147 : decode cX5_mend 147 = .ok (.iconst 1, 1) := by decide +kernel
theorem dX5_mend_148 : decode cX5_mend 148 = .ok (.goto 4, 3) := by decide +kernel
theorem dX5_mend_151 : decode cX5_mend 151 = .ok (.iconst 0, 1) := by decide +kernel
theorem dX5_mend_152 : decode cX5_mend 152 = .ok (.iadd, 1) := by decide +kernel
theorem dX5_mend_153 : decode cX5_mend 153 = .ok (.iastore, 1) := by decide +kernel
theorem dX5_mend_154 : decode cX5_mend 154 = .ok (.iinc 2 1, 3) := by decide +kernel
theorem dX5_mend_157 : decode cX5_mend 157 = .ok (.goto (-31), 3) := by decide +kernel
theorem dX5_mend_160 : decode cX5_mend 160 = .ok (.return_, 1) := by decide +kernel
theorem dX5_whyNot_0 : decode cX5_whyNot 0 = .ok (.iload_n 1, 1) := by decide +kernel
theorem dX5_whyNot_1 : decode cX5_whyNot 1 = .ok (.bipush 46, 2) := by decide +kernel
theorem dX5_whyNot_3 : decode cX5_whyNot 3 = .ok (.if_icmp .eq 9, 3) := by decide +kernel
theorem dX5_whyNot_6 : decode cX5_whyNot 6 = .ok (.iload_n 1, 1) := by decide +kernel
theorem dX5_whyNot_7 : decode cX5_whyNot 7 = .ok (.bipush 104, 2) := by decide +kernel
theorem dX5_whyNot_9 : decode cX5_whyNot 9 = .ok (.if_icmp .ne 7, 3) := by decide +kernel
theorem dX5_whyNot_12 : decode cX5_whyNot 12 = .ok (.iconst 1, 1) := by decide +kernel
theorem dX5_whyNot_13 : decode cX5_whyNot 13 = .ok (.goto 4, 3) := by decide +kernel
theorem dX5_whyNot_16 : decode cX5_whyNot 16 = .ok (.iconst 0, 1) := by decide +kernel
theorem dX5_whyNot_17 : decode cX5_whyNot 17 = .ok (.istore_n 2, 1) := by decide +kernel
theorem dX5_whyNot_18 : decode cX5_whyNot 18 = .ok (.iload_n 2, 1) := by decide +kernel
theorem dX5_whyNot_19 : decode cX5_whyNot 19 = .ok (.ifCond .eq 21, 3) := by decide +kernel
theorem dX5_whyNot_22 : decode cX5_whyNot 22 = .ok (.aload_n 0, 1) := by decide +kernel
theorem dX5_whyNot_23 : decode cX5_whyNot 23 = .ok (.getfield 13, 3) := by decide +kernel
theorem dX5_whyNot_26 : decode cX5_whyNot 26 = .ok (.bipush 14, 2) := by decide +kernel
theorem dX5_whyNot_28 : decode cX5_whyNot 28 = .ok (.iaload, 1) := by decide +kernel
theorem dX5_whyNot_29 : decode cX5_whyNot 29 = .ok (.bipush 99, 2) := by decide +kernel
theorem dX5_whyNot_31 : decode cX5_whyNot 31 = .ok (.if_icmp .ne 7, 3) := by decide +kernel
theorem dX5_whyNot_34 : decode cX5_whyNot 34 = .ok (.iconst 1, 1) := by decide +kernel
theorem dX5_whyNot_35 : decode cX5_whyNot 35 = .ok (.goto 4, 3) := by decide +kernel
theorem dX5_whyNot_38 : decode cX5_whyNot 38 = .ok (.iconst 0, 1) := by decide +kernel
theorem dX5_whyNot_39 : decode cX5_whyNot 39 = .ok (.ireturn, 1) := by decide +kernel
theorem dX5_whyNot_40 : decode cX5_whyNot 40 = .ok (.iload_n 1, 1) := by decide +kernel
theorem dX5_whyNot_41 : decode cX5_whyNot 41 = .ok (.bipush 33, 2) := by decide +kernel
theorem dX5_whyNot_43 : decode cX5_whyNot 43 = .ok (.if_icmp .ne 21, 3) := by decide +kernel
theorem dX5_whyNot_46 : decode cX5_whyNot 46 = .ok (.aload_n 0, 1) := by decide +kernel
theorem dX5_whyNot_47 : decode cX5_whyNot 47 = .ok (.getfield 13, 3) := by decide +kernel
theorem dX5_whyNot_50 : decode cX5_whyNot 50 = .ok (.bipush 12, 2) := by decide +kernel
theorem dX5_whyNot_52 : decode cX5_whyNot 52 = .ok (.iaload, 1) := by decide +kernel
theorem dX5_whyNot_53 : decode cX5_whyNot 53 = .ok (.ifCond .ne 7, 3) := by decide +kernel
theorem dX5_whyNot_56 : decode cX5_whyNot 56 = .ok (.iconst 2, 1) := by decide +kernel
theorem dX5_whyNot_57 : decode cX5_whyNot 57 = .ok (.goto 22, 3) := by decide +kernel
theorem dX5_whyNot_60 : decode cX5_whyNot 60 = .ok (.iconst 0, 1) := by decide +kernel
theorem dX5_whyNot_61 : decode cX5_whyNot 61 = .ok (.goto 18, 3) := by decide +kernel
theorem dX5_whyNot_64 : decode cX5_whyNot 64 = .ok (.aload_n 0, 1) := by decide +kernel
theorem dX5_whyNot_65 : decode cX5_whyNot 65 = .ok (.getfield 13, 3) := by decide +kernel
theorem dX5_whyNot_68 : decode cX5_whyNot 68 = .ok (.bipush 13, 2) := by decide +kernel
theorem dX5_whyNot_70 : decode cX5_whyNot 70 = .ok (.iaload, 1) := by decide +kernel
theorem dX5_whyNot_71 : decode cX5_whyNot 71 = .ok (.ifCond .ne 7, 3) := by decide +kernel
theorem dX5_whyNot_74 : decode cX5_whyNot 74 = .ok (.iconst 3, 1) := by decide +kernel
theorem dX5_whyNot_75 : decode cX5_whyNot 75 = .ok (.goto 4, 3) := by decide +kernel
theorem dX5_whyNot_78 : decode cX5_whyNot 78 = .ok (.iconst 0, 1) := by decide +kernel
theorem dX5_whyNot_79 : decode cX5_whyNot 79 = .ok (.ireturn, 1) := by decide +kernel
theorem dX5_act_0 : decode cX5_act 0 = .ok (.iload_n 1, 1) := by decide +kernel
theorem dX5_act_1 : decode cX5_act 1 = .ok (.lookupswitch 102 #[(33, 95), (46, 35), (104, 76)], 35) := by decide +kernel
theorem dX5_act_36 : decode cX5_act 36 = .ok (.aload_n 0, 1) := by decide +kernel
theorem dX5_act_37 : decode cX5_act 37 = .ok (.getfield 13, 3) := by decide +kernel
theorem dX5_act_40 : decode cX5_act 40 = .ok (.bipush 12, 2) := by decide +kernel
theorem dX5_act_42 : decode cX5_act 42 = .ok (.dup2, 1) := by decide +kernel
theorem dX5_act_43 : decode cX5_act 43 = .ok (.iaload, 1) := by decide +kernel
theorem dX5_act_44 : decode cX5_act 44 = .ok (.aload_n 0, 1) := by decide +kernel
theorem dX5_act_45 : decode cX5_act 45 = .ok (.getfield 13, 3) := by decide +kernel
theorem dX5_act_48 : decode cX5_act 48 = .ok (.bipush 12, 2) := by decide +kernel
theorem dX5_act_50 : decode cX5_act 50 = .ok (.iaload, 1) := by decide +kernel
theorem dX5_act_51 : decode cX5_act 51 = .ok (.bipush 99, 2) := by decide +kernel
theorem dX5_act_53 : decode cX5_act 53 = .ok (.if_icmp .ge 7, 3) := by decide +kernel
theorem dX5_act_56 : decode cX5_act 56 = .ok (.iconst 1, 1) := by decide +kernel
theorem dX5_act_57 : decode cX5_act 57 = .ok (.goto 4, 3) := by decide +kernel
theorem dX5_act_60 : decode cX5_act 60 = .ok (.iconst 0, 1) := by decide +kernel
theorem dX5_act_61 : decode cX5_act 61 = .ok (.iadd, 1) := by decide +kernel
theorem dX5_act_62 : decode cX5_act 62 = .ok (.iastore, 1) := by decide +kernel
theorem dX5_act_63 : decode cX5_act 63 = .ok (.aload_n 0, 1) := by decide +kernel
theorem dX5_act_64 : decode cX5_act 64 = .ok (.getfield 13, 3) := by decide +kernel
theorem dX5_act_67 : decode cX5_act 67 = .ok (.bipush 14, 2) := by decide +kernel
theorem dX5_act_69 : decode cX5_act 69 = .ok (.dup2, 1) := by decide +kernel
theorem dX5_act_70 : decode cX5_act 70 = .ok (.iaload, 1) := by decide +kernel
theorem dX5_act_71 : decode cX5_act 71 = .ok (.iconst 1, 1) := by decide +kernel
theorem dX5_act_72 : decode cX5_act 72 = .ok (.iadd, 1) := by decide +kernel
theorem dX5_act_73 : decode cX5_act 73 = .ok (.iastore, 1) := by decide +kernel
theorem dX5_act_74 : decode cX5_act 74 = .ok (.goto 33, 3) := by decide +kernel
theorem dX5_act_77 : decode cX5_act 77 = .ok (.aload_n 0, 1) := by decide +kernel
theorem dX5_act_78 : decode cX5_act 78 = .ok (.iload_n 2, 1) := by decide +kernel
theorem dX5_act_79 : decode cX5_act 79 = .ok (.invokevirtual 73, 3) := by decide +kernel
theorem dX5_act_82 : decode cX5_act 82 = .ok (.aload_n 0, 1) := by decide +kernel
theorem dX5_act_83 : decode cX5_act 83 = .ok (.getfield 13, 3) := by decide +kernel
theorem dX5_act_86 : decode cX5_act 86 = .ok (.bipush 14, 2) := by decide +kernel
theorem dX5_act_88 : decode cX5_act 88 = .ok (.dup2, 1) := by decide +kernel
theorem dX5_act_89 : decode cX5_act 89 = .ok (.iaload, 1) := by decide +kernel
theorem dX5_act_90 : decode cX5_act 90 = .ok (.iconst 1, 1) := by decide +kernel
theorem dX5_act_91 : decode cX5_act 91 = .ok (.iadd, 1) := by decide +kernel
theorem dX5_act_92 : decode cX5_act 92 = .ok (.iastore, 1) := by decide +kernel
theorem dX5_act_93 : decode cX5_act 93 = .ok (.goto 14, 3) := by decide +kernel
theorem dX5_act_96 : decode cX5_act 96 = .ok (.aload_n 0, 1) := by decide +kernel
theorem dX5_act_97 : decode cX5_act 97 = .ok (.invokevirtual 77, 3) := by decide +kernel
theorem dX5_act_100 : decode cX5_act 100 = .ok (.goto 7, 3) := by decide +kernel
theorem dX5_act_103 : decode cX5_act 103 = .ok (.aload_n 0, 1) := by decide +kernel
theorem dX5_act_104 : decode cX5_act 104 = .ok (.invokevirtual 80, 3) := by decide +kernel
theorem dX5_act_107 : decode cX5_act 107 = .ok (.return_, 1) := by decide +kernel
theorem dX5_downSet_0 : decode cX5_downSet 0 = .ok (.iconst 0, 1) := by decide +kernel
theorem dX5_downSet_1 : decode cX5_downSet 1 = .ok (.istore_n 1, 1) := by decide +kernel
theorem dX5_downSet_2 : decode cX5_downSet 2 = .ok (.iconst 0, 1) := by decide +kernel
theorem dX5_downSet_3 : decode cX5_downSet 3 = .ok (.istore_n 2, 1) := by decide +kernel
theorem dX5_downSet_4 : decode cX5_downSet 4 = .ok (.iload_n 2, 1) := by decide +kernel
theorem dX5_downSet_5 : decode cX5_downSet 5 = .ok (.bipush 12, 2) := by decide +kernel
theorem dX5_downSet_7 : decode cX5_downSet 7 = .ok (.if_icmp .ge 28, 3) := by decide +kernel
theorem dX5_downSet_10 : decode cX5_downSet 10 = .ok (.iload_n 1, 1) := by decide +kernel
theorem dX5_downSet_11 : decode cX5_downSet 11 = .ok (.aload_n 0, 1) := by decide +kernel
theorem dX5_downSet_12 : decode cX5_downSet 12 = .ok (.getfield 13, 3) := by decide +kernel
theorem dX5_downSet_15 : decode cX5_downSet 15 = .ok (.iload_n 2, 1) := by decide +kernel
theorem dX5_downSet_16 : decode cX5_downSet 16 = .ok (.iaload, 1) := by decide +kernel
theorem dX5_downSet_17 : decode cX5_downSet 17 = .ok (.ifCond .ne 9, 3) := by decide +kernel
theorem dX5_downSet_20 : decode cX5_downSet 20 = .ok (.iconst 1, 1) := by decide +kernel
theorem dX5_downSet_21 : decode cX5_downSet 21 = .ok (.iload_n 2, 1) := by decide +kernel
theorem dX5_downSet_22 : decode cX5_downSet 22 = .ok (.ishl, 1) := by decide +kernel
theorem dX5_downSet_23 : decode cX5_downSet 23 = .ok (.goto 4, 3) := by decide +kernel
theorem dX5_downSet_26 : decode cX5_downSet 26 = .ok (.iconst 0, 1) := by decide +kernel
theorem dX5_downSet_27 : decode cX5_downSet 27 = .ok (.ior, 1) := by decide +kernel
theorem dX5_downSet_28 : decode cX5_downSet 28 = .ok (.istore_n 1, 1) := by decide +kernel
theorem dX5_downSet_29 : decode cX5_downSet 29 = .ok (.iinc 2 1, 3) := by decide +kernel
theorem dX5_downSet_32 : decode cX5_downSet 32 = .ok (.goto (-28), 3) := by decide +kernel
theorem dX5_downSet_35 : decode cX5_downSet 35 = .ok (.iload_n 1, 1) := by decide +kernel
theorem dX5_downSet_36 : decode cX5_downSet 36 = .ok (.ireturn, 1) := by decide +kernel
theorem dX5_goRounds_0 : decode cX5_goRounds 0 = .ok (.aload_n 0, 1) := by decide +kernel
theorem dX5_goRounds_1 : decode cX5_goRounds 1 = .ok (.invokevirtual 83, 3) := by decide +kernel
theorem dX5_goRounds_4 : decode cX5_goRounds 4 = .ok (.aload_n 0, 1) := by decide +kernel
theorem dX5_goRounds_5 : decode cX5_goRounds 5 = .ok (.iconst 0, 1) := by decide +kernel
theorem dX5_goRounds_6 : decode cX5_goRounds 6 = .ok (.putfield 86, 3) := by decide +kernel
theorem dX5_goRounds_9 : decode cX5_goRounds 9 = .ok (.aload_n 0, 1) := by decide +kernel
theorem dX5_goRounds_10 : decode cX5_goRounds 10 = .ok (.bipush (-6), 2) := by decide +kernel
theorem dX5_goRounds_12 : decode cX5_goRounds 12 = .ok (.putfield 89, 3) := by decide +kernel
theorem dX5_goRounds_15 : decode cX5_goRounds 15 = .ok (.aload_n 0, 1) := by decide +kernel
theorem dX5_goRounds_16 : decode cX5_goRounds 16 = .ok (.bipush (-6), 2) := by decide +kernel
theorem dX5_goRounds_18 : decode cX5_goRounds 18 = .ok (.putfield 92, 3) := by decide +kernel
theorem dX5_goRounds_21 : decode cX5_goRounds 21 = .ok (.iconst 0, 1) := by decide +kernel
theorem dX5_goRounds_22 : decode cX5_goRounds 22 = .ok (.istore_n 1, 1) := by decide +kernel
theorem dX5_goRounds_23 : decode cX5_goRounds 23 = .ok (.iload_n 1, 1) := by decide +kernel
theorem dX5_goRounds_24 : decode cX5_goRounds 24 = .ok (.aload_n 0, 1) := by decide +kernel
theorem dX5_goRounds_25 : decode cX5_goRounds 25 = .ok (.getfield 54, 3) := by decide +kernel
theorem dX5_goRounds_28 : decode cX5_goRounds 28 = .ok (.if_icmp .ge 148, 3) := by decide +kernel
theorem dX5_goRounds_31 : decode cX5_goRounds 31 = .ok (.aload_n 0, 1) := by decide +kernel
theorem dX5_goRounds_32 : decode cX5_goRounds 32 = .ok (.getfield 25, 3) := by decide +kernel
theorem dX5_goRounds_35 : decode cX5_goRounds 35 = .ok (.iload_n 1, 1) := by decide +kernel
theorem dX5_goRounds_36 : decode cX5_goRounds 36 = .ok (.iaload, 1) := by decide +kernel
theorem dX5_goRounds_37 : decode cX5_goRounds 37 = .ok (.istore_n 2, 1) := by decide +kernel
theorem dX5_goRounds_38 : decode cX5_goRounds 38 = .ok (.iconst 0, 1) := by decide +kernel
theorem dX5_goRounds_39 : decode cX5_goRounds 39 = .ok (.istore_n 3, 1) := by decide +kernel
theorem dX5_goRounds_40 : decode cX5_goRounds 40 = .ok (.iload_n 2, 1) := by decide +kernel
theorem dX5_goRounds_41 : decode cX5_goRounds 41 = .ok (.bipush 104, 2) := by decide +kernel
theorem dX5_goRounds_43 : decode cX5_goRounds 43 = .ok (.if_icmp .ne 16, 3) := by decide +kernel
theorem dX5_goRounds_46 : decode cX5_goRounds 46 = .ok (.iinc 1 1, 3) := by decide +kernel
theorem dX5_goRounds_49 : decode cX5_goRounds 49 = .ok (.aload_n 0, 1) := by decide +kernel
theorem dX5_goRounds_50 : decode cX5_goRounds 50 = .ok (.getfield 25, 3) := by decide +kernel
theorem dX5_goRounds_53 : decode cX5_goRounds 53 = .ok (.iload_n 1, 1) := by decide +kernel
theorem dX5_goRounds_54 : decode cX5_goRounds 54 = .ok (.iaload, 1) := by decide +kernel
theorem dX5_goRounds_55 : decode cX5_goRounds 55 = .ok (.bipush 48, 2) := by decide +kernel
theorem dX5_goRounds_57 : decode cX5_goRounds 57 = .ok (.isub, 1) := by decide +kernel
theorem dX5_goRounds_58 : decode cX5_goRounds 58 = .ok (.istore_n 3, 1) := by decide +kernel
theorem dX5_goRounds_59 : decode cX5_goRounds 59 = .ok (.aload_n 0, 1) := by decide +kernel
theorem dX5_goRounds_60 : decode cX5_goRounds 60 = .ok (.aload_n 0, 1) := by decide +kernel
theorem dX5_goRounds_61 : decode cX5_goRounds 61 = .ok (.iload_n 2, 1) := by decide +kernel
theorem dX5_goRounds_62 : decode cX5_goRounds 62 = .ok (.invokevirtual 95, 3) := by decide +kernel
theorem dX5_goRounds_65 : decode cX5_goRounds 65 = .ok (.putfield 98, 3) := by decide +kernel
theorem dX5_goRounds_68 : decode cX5_goRounds 68 = .ok (.aload_n 0, 1) := by decide +kernel
theorem dX5_goRounds_69 : decode cX5_goRounds 69 = .ok (.getfield 98, 3) := by decide +kernel
theorem dX5_goRounds_72 : decode cX5_goRounds 72 = .ok (.ifCond .le 8, 3) := by decide +kernel
theorem dX5_goRounds_75 : decode cX5_goRounds 75 = .ok (.aload_n 0, 1) := by decide +kernel
theorem dX5_goRounds_76 : decode cX5_goRounds 76 = .ok (.getfield 86, 3) := by decide +kernel
theorem dX5_goRounds_79 : decode cX5_goRounds 79 = .ok (.ireturn, 1) := by decide +kernel
theorem dX5_goRounds_80 : decode cX5_goRounds 80 = .ok (.aload_n 0, 1) := by decide +kernel
theorem dX5_goRounds_81 : decode cX5_goRounds 81 = .ok (.invokevirtual 101, 3) := by decide +kernel
theorem dX5_goRounds_84 : decode cX5_goRounds 84 = .ok (.istore 4, 2) := by decide +kernel
theorem dX5_goRounds_86 : decode cX5_goRounds 86 = .ok (.aload_n 0, 1) := by decide +kernel
theorem dX5_goRounds_87 : decode cX5_goRounds 87 = .ok (.iload_n 2, 1) := by decide +kernel
theorem dX5_goRounds_88 : decode cX5_goRounds 88 = .ok (.iload_n 3, 1) := by decide +kernel
theorem dX5_goRounds_89 : decode cX5_goRounds 89 = .ok (.invokevirtual 104, 3) := by decide +kernel
theorem dX5_goRounds_92 : decode cX5_goRounds 92 = .ok (.aload_n 0, 1) := by decide +kernel
theorem dX5_goRounds_93 : decode cX5_goRounds 93 = .ok (.invokevirtual 101, 3) := by decide +kernel
theorem dX5_goRounds_96 : decode cX5_goRounds 96 = .ok (.iload 4, 2) := by decide +kernel
theorem dX5_goRounds_98 : decode cX5_goRounds 98 = .ok (.iconst (-1), 1) := by decide +kernel
theorem dX5_goRounds_99 : decode cX5_goRounds 99 = .ok (.ixor, 1) := by decide +kernel
theorem dX5_goRounds_100 : decode cX5_goRounds 100 = .ok (.iand, 1) := by decide +kernel
theorem dX5_goRounds_101 : decode cX5_goRounds 101 = .ok (.istore 5, 2) := by decide +kernel
theorem dX5_goRounds_103 : decode cX5_goRounds 103 = .ok (.bipush 11, 2) := by decide +kernel
theorem dX5_goRounds_105 : decode cX5_goRounds 105 = .ok (.istore 6, 2) := by decide +kernel
theorem dX5_goRounds_107 : decode cX5_goRounds 107 = .ok (.iload 6, 2) := by decide +kernel
theorem dX5_goRounds_109 : decode cX5_goRounds 109 = .ok (.ifCond .lt 51, 3) := by decide +kernel
theorem dX5_goRounds_112 : decode cX5_goRounds 112 = .ok (.aload_n 0, 1) := by decide +kernel
theorem dX5_goRounds_113 : decode cX5_goRounds 113 = .ok (.getfield 89, 3) := by decide +kernel
theorem dX5_goRounds_116 : decode cX5_goRounds 116 = .ok (.ifCond .lt 14, 3) := by decide +kernel
theorem dX5_goRounds_119 : decode cX5_goRounds 119 = .ok (.aload_n 0, 1) := by decide +kernel
theorem dX5_goRounds_120 : decode cX5_goRounds 120 = .ok (.getfield 89, 3) := by decide +kernel
theorem dX5_goRounds_123 : decode cX5_goRounds 123 = .ok (.aload_n 0, 1) := by decide +kernel
theorem dX5_goRounds_124 : decode cX5_goRounds 124 = .ok (.getfield 86, 3) := by decide +kernel
theorem dX5_goRounds_127 : decode cX5_goRounds 127 = .ok (.if_icmp .ne 33, 3) := by decide +kernel
theorem dX5_goRounds_130 : decode cX5_goRounds 130 = .ok (.iload 5, 2) := by decide +kernel
theorem dX5_goRounds_132 : decode cX5_goRounds 132 = .ok (.iload 6, 2) := by decide +kernel
theorem dX5_goRounds_134 : decode cX5_goRounds 134 = .ok (.invokestatic 61, 3) := by decide +kernel
theorem dX5_goRounds_137 : decode cX5_goRounds 137 = .ok (.ifCond .eq 17, 3) := by decide +kernel
theorem dX5_goRounds_140 : decode cX5_goRounds 140 = .ok (.aload_n 0, 1) := by decide +kernel
theorem dX5_goRounds_141 : decode cX5_goRounds 141 = .ok (.aload_n 0, 1) := by decide +kernel
theorem dX5_goRounds_142 : decode cX5_goRounds 142 = .ok (.getfield 86, 3) := by decide +kernel
theorem dX5_goRounds_145 : decode cX5_goRounds 145 = .ok (.putfield 89, 3) := by decide +kernel
theorem dX5_goRounds_148 : decode cX5_goRounds 148 = .ok (.aload_n 0, 1) := by decide +kernel
theorem dX5_goRounds_149 : decode cX5_goRounds 149 = .ok (.iload 6, 2) := by decide +kernel
theorem dX5_goRounds_151 : decode cX5_goRounds 151 = .ok (.putfield 92, 3) := by decide +kernel
theorem dX5_goRounds_154 : decode cX5_goRounds 154 = .ok (.iinc 6 (-1), 3) := by decide +kernel
theorem dX5_goRounds_157 : decode cX5_goRounds 157 = .ok (.goto (-50), 3) := by decide +kernel
theorem dX5_goRounds_160 : decode cX5_goRounds 160 = .ok (.iinc 1 1, 3) := by decide +kernel
theorem dX5_goRounds_163 : decode cX5_goRounds 163 = .ok (.aload_n 0, 1) := by decide +kernel
theorem dX5_goRounds_164 : decode cX5_goRounds 164 = .ok (.dup, 1) := by decide +kernel
theorem dX5_goRounds_165 : decode cX5_goRounds 165 = .ok (.getfield 86, 3) := by decide +kernel
theorem dX5_goRounds_168 : decode cX5_goRounds 168 = .ok (.iconst 1, 1) := by decide +kernel
theorem dX5_goRounds_169 : decode cX5_goRounds 169 = .ok (.iadd, 1) := by decide +kernel
theorem dX5_goRounds_170 : decode cX5_goRounds 170 = .ok (.putfield 86, 3) := by decide +kernel
theorem dX5_goRounds_173 : decode cX5_goRounds 173 = .ok (.goto (-150), 3) := by decide +kernel
theorem dX5_goRounds_176 : decode cX5_goRounds 176 = .ok (.bipush (-6), 2) := by decide +kernel
theorem dX5_goRounds_178 : decode cX5_goRounds 178 = .ok (.ireturn, 1) := by decide +kernel
theorem dX5_judge_0 : decode cX5_judge 0 = .ok (.iload_n 1, 1) := by decide +kernel
theorem dX5_judge_1 : decode cX5_judge 1 = .ok (.iconst 0, 1) := by decide +kernel
theorem dX5_judge_2 : decode cX5_judge 2 = .ok (.iconst 1, 1) := by decide +kernel
theorem dX5_judge_3 : decode cX5_judge 3 = .ok (.invokestatic 38, 3) := by decide +kernel
theorem dX5_judge_6 : decode cX5_judge 6 = .ok (.ifCond .ne 6, 3) := by decide +kernel
theorem dX5_judge_9 : decode cX5_judge 9 = .ok (.bipush (-2), 2) := by decide +kernel
theorem dX5_judge_11 : decode cX5_judge 11 = .ok (.ireturn, 1) := by decide +kernel
theorem dX5_judge_12 : decode cX5_judge 12 = .ok (.aload_n 0, 1) := by decide +kernel
theorem dX5_judge_13 : decode cX5_judge 13 = .ok (.invokevirtual 57, 3) := by decide +kernel
theorem dX5_judge_16 : decode cX5_judge 16 = .ok (.ifCond .lt 6, 3) := by decide +kernel
theorem dX5_judge_19 : decode cX5_judge 19 = .ok (.bipush (-5), 2) := by decide +kernel
theorem dX5_judge_21 : decode cX5_judge 21 = .ok (.ireturn, 1) := by decide +kernel
theorem dX5_judge_22 : decode cX5_judge 22 = .ok (.aload_n 0, 1) := by decide +kernel
theorem dX5_judge_23 : decode cX5_judge 23 = .ok (.invokevirtual 107, 3) := by decide +kernel
theorem dX5_judge_26 : decode cX5_judge 26 = .ok (.istore_n 2, 1) := by decide +kernel
theorem dX5_judge_27 : decode cX5_judge 27 = .ok (.iload_n 2, 1) := by decide +kernel
theorem dX5_judge_28 : decode cX5_judge 28 = .ok (.ifCond .lt 7, 3) := by decide +kernel
theorem dX5_judge_31 : decode cX5_judge 31 = .ok (.iload_n 1, 1) := by decide +kernel
theorem dX5_judge_32 : decode cX5_judge 32 = .ok (.ifCond .ne 7, 3) := by decide +kernel
theorem dX5_judge_35 : decode cX5_judge 35 = .ok (.iload_n 2, 1) := by decide +kernel
theorem dX5_judge_36 : decode cX5_judge 36 = .ok (.goto 7, 3) := by decide +kernel
theorem dX5_judge_39 : decode cX5_judge 39 = .ok (.aload_n 0, 1) := by decide +kernel
theorem dX5_judge_40 : decode cX5_judge 40 = .ok (.getfield 98, 3) := by decide +kernel
theorem dX5_judge_43 : decode cX5_judge 43 = .ok (.ireturn, 1) := by decide +kernel
theorem dX5_barOfRounds_0 : decode cX5_barOfRounds 0 = .ok (.aload_n 0, 1) := by decide +kernel
theorem dX5_barOfRounds_1 : decode cX5_barOfRounds 1 = .ok (.invokevirtual 57, 3) := by decide +kernel
theorem dX5_barOfRounds_4 : decode cX5_barOfRounds 4 = .ok (.ifCond .ge 10, 3) := by decide +kernel
theorem dX5_barOfRounds_7 : decode cX5_barOfRounds 7 = .ok (.aload_n 0, 1) := by decide +kernel
theorem dX5_barOfRounds_8 : decode cX5_barOfRounds 8 = .ok (.invokevirtual 107, 3) := by decide +kernel
theorem dX5_barOfRounds_11 : decode cX5_barOfRounds 11 = .ok (.ifCond .lt 8, 3) := by decide +kernel
theorem dX5_barOfRounds_14 : decode cX5_barOfRounds 14 = .ok (.bipush (-5), 2) := by decide +kernel
theorem dX5_barOfRounds_16 : decode cX5_barOfRounds 16 = .ok (.goto 4, 3) := by decide +kernel
theorem dX5_barOfRounds_19 : decode cX5_barOfRounds 19 = .ok (.iconst 0, 1) := by decide +kernel
theorem dX5_barOfRounds_20 : decode cX5_barOfRounds 20 = .ok (.ireturn, 1) := by decide +kernel
theorem dX5_done_0 : decode cX5_done 0 = .ok (.aload_n 0, 1) := by decide +kernel
theorem dX5_done_1 : decode cX5_done 1 = .ok (.invokevirtual 110, 3) := by decide +kernel
theorem dX5_done_4 : decode cX5_done 4 = .ok (.ifCond .ge 6, 3) := by decide +kernel
theorem dX5_done_7 : decode cX5_done 7 = .ok (.bipush (-5), 2) := by decide +kernel
theorem dX5_done_9 : decode cX5_done 9 = .ok (.ireturn, 1) := by decide +kernel
theorem dX5_done_10 : decode cX5_done 10 = .ok (.iconst 0, 1) := by decide +kernel
theorem dX5_done_11 : decode cX5_done 11 = .ok (.istore_n 1, 1) := by decide +kernel
theorem dX5_done_12 : decode cX5_done 12 = .ok (.iload_n 1, 1) := by decide +kernel
theorem dX5_done_13 : decode cX5_done 13 = .ok (.bipush 15, 2) := by decide +kernel
theorem dX5_done_15 : decode cX5_done 15 = .ok (.if_icmp .ge 21, 3) := by decide +kernel
theorem dX5_done_18 : decode cX5_done 18 = .ok (.aload_n 0, 1) := by decide +kernel
theorem dX5_done_19 : decode cX5_done 19 = .ok (.getfield 7, 3) := by decide +kernel
theorem dX5_done_22 : decode cX5_done 22 = .ok (.iload_n 1, 1) := by decide +kernel
theorem dX5_done_23 : decode cX5_done 23 = .ok (.aload_n 0, 1) := by decide +kernel
theorem dX5_done_24 : decode cX5_done 24 = .ok (.getfield 13, 3) := by decide +kernel
theorem dX5_done_27 : decode cX5_done 27 = .ok (.iload_n 1, 1) := by decide +kernel
theorem dX5_done_28 : decode cX5_done 28 = .ok (.iaload, 1) := by decide +kernel
theorem dX5_done_29 : decode cX5_done 29 = .ok (.iastore, 1) := by decide +kernel
theorem dX5_done_30 : decode cX5_done 30 = .ok (.iinc 1 1, 3) := by decide +kernel
theorem dX5_done_33 : decode cX5_done 33 = .ok (.goto (-21), 3) := by decide +kernel
theorem dX5_done_36 : decode cX5_done 36 = .ok (.aload_n 0, 1) := by decide +kernel
theorem dX5_done_37 : decode cX5_done 37 = .ok (.iconst 0, 1) := by decide +kernel
theorem dX5_done_38 : decode cX5_done 38 = .ok (.putfield 54, 3) := by decide +kernel
theorem dX5_done_41 : decode cX5_done 41 = .ok (.aload_n 0, 1) := by decide +kernel
theorem dX5_done_42 : decode cX5_done 42 = .ok (.getfield 86, 3) := by decide +kernel
theorem dX5_done_45 : decode cX5_done 45 = .ok (.ireturn, 1) := by decide +kernel
theorem dX5_behind_0 : decode cX5_behind 0 = .ok (.iload_n 1, 1) := by decide +kernel
theorem dX5_behind_1 : decode cX5_behind 1 = .ok (.invokestatic 42, 3) := by decide +kernel
theorem dX5_behind_4 : decode cX5_behind 4 = .ok (.ifCond .ne 5, 3) := by decide +kernel
theorem dX5_behind_7 : decode cX5_behind 7 = .ok (.iconst (-1), 1) := by decide +kernel
theorem dX5_behind_8 : decode cX5_behind 8 = .ok (.ireturn, 1) := by decide +kernel
theorem dX5_behind_9 : decode cX5_behind 9 = .ok (.aload_n 0, 1) := by decide +kernel
theorem dX5_behind_10 : decode cX5_behind 10 = .ok (.invokevirtual 110, 3) := by decide +kernel
theorem dX5_behind_13 : decode cX5_behind 13 = .ok (.ifCond .ge 8, 3) := by decide +kernel
theorem dX5_behind_16 : decode cX5_behind 16 = .ok (.bipush (-5), 2) := by decide +kernel
theorem dX5_behind_18 : decode cX5_behind 18 = .ok (.goto 9, 3) := by decide +kernel
theorem dX5_behind_21 : decode cX5_behind 21 = .ok (.aload_n 0, 1) := by decide +kernel
theorem dX5_behind_22 : decode cX5_behind 22 = .ok (.getfield 13, 3) := by decide +kernel
theorem dX5_behind_25 : decode cX5_behind 25 = .ok (.iload_n 1, 1) := by decide +kernel
theorem dX5_behind_26 : decode cX5_behind 26 = .ok (.iaload, 1) := by decide +kernel
theorem dX5_behind_27 : decode cX5_behind 27 = .ok (.ireturn, 1) := by decide +kernel
theorem dX5_then_0 : decode cX5_then 0 = .ok (.iload_n 1, 1) := by decide +kernel
theorem dX5_then_1 : decode cX5_then 1 = .ok (.iconst 0, 1) := by decide +kernel
theorem dX5_then_2 : decode cX5_then 2 = .ok (.iconst 2, 1) := by decide +kernel
theorem dX5_then_3 : decode cX5_then 3 = .ok (.invokestatic 38, 3) := by decide +kernel
theorem dX5_then_6 : decode cX5_then 6 = .ok (.ifCond .ne 6, 3) := by decide +kernel
theorem dX5_then_9 : decode cX5_then 9 = .ok (.bipush (-2), 2) := by decide +kernel
theorem dX5_then_11 : decode cX5_then 11 = .ok (.ireturn, 1) := by decide +kernel
theorem dX5_then_12 : decode cX5_then 12 = .ok (.aload_n 0, 1) := by decide +kernel
theorem dX5_then_13 : decode cX5_then 13 = .ok (.invokevirtual 110, 3) := by decide +kernel
theorem dX5_then_16 : decode cX5_then 16 = .ok (.ifCond .ge 6, 3) := by decide +kernel
theorem dX5_then_19 : decode cX5_then 19 = .ok (.bipush (-5), 2) := by decide +kernel
theorem dX5_then_21 : decode cX5_then 21 = .ok (.ireturn, 1) := by decide +kernel
theorem dX5_then_22 : decode cX5_then 22 = .ok (.iload_n 1, 1) := by decide +kernel
theorem dX5_then_23 : decode cX5_then 23 = .ok (.ifCond .ne 10, 3) := by decide +kernel
theorem dX5_then_26 : decode cX5_then 26 = .ok (.aload_n 0, 1) := by decide +kernel
theorem dX5_then_27 : decode cX5_then 27 = .ok (.invokevirtual 101, 3) := by decide +kernel
theorem dX5_then_30 : decode cX5_then 30 = .ok (.goto 25, 3) := by decide +kernel
theorem dX5_then_33 : decode cX5_then 33 = .ok (.iload_n 1, 1) := by decide +kernel
theorem dX5_then_34 : decode cX5_then 34 = .ok (.iconst 1, 1) := by decide +kernel
theorem dX5_then_35 : decode cX5_then 35 = .ok (.if_icmp .ne 13, 3) := by decide +kernel
theorem dX5_then_38 : decode cX5_then 38 = .ok (.aload_n 0, 1) := by decide +kernel
theorem dX5_then_39 : decode cX5_then 39 = .ok (.getfield 13, 3) := by decide +kernel
theorem dX5_then_42 : decode cX5_then 42 = .ok (.bipush 12, 2) := by decide +kernel
theorem dX5_then_44 : decode cX5_then 44 = .ok (.iaload, 1) := by decide +kernel
theorem dX5_then_45 : decode cX5_then 45 = .ok (.goto 10, 3) := by decide +kernel
theorem dX5_then_48 : decode cX5_then 48 = .ok (.aload_n 0, 1) := by decide +kernel
theorem dX5_then_49 : decode cX5_then 49 = .ok (.getfield 13, 3) := by decide +kernel
theorem dX5_then_52 : decode cX5_then 52 = .ok (.bipush 14, 2) := by decide +kernel
theorem dX5_then_54 : decode cX5_then 54 = .ok (.iaload, 1) := by decide +kernel
theorem dX5_then_55 : decode cX5_then 55 = .ok (.ireturn, 1) := by decide +kernel
theorem dX5_fell_0 : decode cX5_fell 0 = .ok (.iload_n 1, 1) := by decide +kernel
theorem dX5_fell_1 : decode cX5_fell 1 = .ok (.iconst 0, 1) := by decide +kernel
theorem dX5_fell_2 : decode cX5_fell 2 = .ok (.iconst 1, 1) := by decide +kernel
theorem dX5_fell_3 : decode cX5_fell 3 = .ok (.invokestatic 38, 3) := by decide +kernel
theorem dX5_fell_6 : decode cX5_fell 6 = .ok (.ifCond .ne 6, 3) := by decide +kernel
theorem dX5_fell_9 : decode cX5_fell 9 = .ok (.bipush (-2), 2) := by decide +kernel
theorem dX5_fell_11 : decode cX5_fell 11 = .ok (.ireturn, 1) := by decide +kernel
theorem dX5_fell_12 : decode cX5_fell 12 = .ok (.aload_n 0, 1) := by decide +kernel
theorem dX5_fell_13 : decode cX5_fell 13 = .ok (.invokevirtual 110, 3) := by decide +kernel
theorem dX5_fell_16 : decode cX5_fell 16 = .ok (.ifCond .ge 6, 3) := by decide +kernel
theorem dX5_fell_19 : decode cX5_fell 19 = .ok (.bipush (-5), 2) := by decide +kernel
theorem dX5_fell_21 : decode cX5_fell 21 = .ok (.ireturn, 1) := by decide +kernel
theorem dX5_fell_22 : decode cX5_fell 22 = .ok (.iload_n 1, 1) := by decide +kernel
theorem dX5_fell_23 : decode cX5_fell 23 = .ok (.ifCond .ne 10, 3) := by decide +kernel
theorem dX5_fell_26 : decode cX5_fell 26 = .ok (.aload_n 0, 1) := by decide +kernel
theorem dX5_fell_27 : decode cX5_fell 27 = .ok (.getfield 89, 3) := by decide +kernel
theorem dX5_fell_30 : decode cX5_fell 30 = .ok (.goto 7, 3) := by decide +kernel
theorem dX5_fell_33 : decode cX5_fell 33 = .ok (.aload_n 0, 1) := by decide +kernel
theorem dX5_fell_34 : decode cX5_fell 34 = .ok (.getfield 92, 3) := by decide +kernel
theorem dX5_fell_37 : decode cX5_fell 37 = .ok (.ireturn, 1) := by decide +kernel
theorem dX5_down_0 : decode cX5_down 0 = .ok (.aload_n 0, 1) := by decide +kernel
theorem dX5_down_1 : decode cX5_down 1 = .ok (.invokevirtual 83, 3) := by decide +kernel
theorem dX5_down_4 : decode cX5_down 4 = .ok (.aload_n 0, 1) := by decide +kernel
theorem dX5_down_5 : decode cX5_down 5 = .ok (.invokevirtual 101, 3) := by decide +kernel
theorem dX5_down_8 : decode cX5_down 8 = .ok (.ireturn, 1) := by decide +kernel
theorem dX5_stretch_0 : decode cX5_stretch 0 = .ok (.iconst 0, 1) := by decide +kernel
theorem dX5_stretch_1 : decode cX5_stretch 1 = .ok (.istore_n 2, 1) := by decide +kernel
theorem dX5_stretch_2 : decode cX5_stretch 2 = .ok (.iconst 0, 1) := by decide +kernel
theorem dX5_stretch_3 : decode cX5_stretch 3 = .ok (.istore_n 3, 1) := by decide +kernel
theorem dX5_stretch_4 : decode cX5_stretch 4 = .ok (.iload_n 3, 1) := by decide +kernel
theorem dX5_stretch_5 : decode cX5_stretch 5 = .ok (.iload_n 1, 1) := by decide +kernel
theorem dX5_stretch_6 : decode cX5_stretch 6 = .ok (.if_icmp .ge 20, 3) := by decide +kernel
theorem dX5_stretch_9 : decode cX5_stretch 9 = .ok (.iload_n 2, 1) := by decide +kernel
theorem dX5_stretch_10 : decode cX5_stretch 10 = .ok (.iconst 1, 1) := by decide +kernel
theorem dX5_stretch_11 : decode cX5_stretch 11 = .ok (.iload_n 0, 1) := by decide +kernel
theorem dX5_stretch_12 : decode cX5_stretch 12 = .ok (.iload_n 3, 1) := by decide +kernel
theorem dX5_stretch_13 : decode cX5_stretch 13 = .ok (.iadd, 1) := by decide +kernel
theorem dX5_stretch_14 : decode cX5_stretch 14 = .ok (.bipush 12, 2) := by decide +kernel
theorem dX5_stretch_16 : decode cX5_stretch 16 = .ok (.irem, 1) := by decide +kernel
theorem dX5_stretch_17 : decode cX5_stretch 17 = .ok (.ishl, 1) := by decide +kernel
theorem dX5_stretch_18 : decode cX5_stretch 18 = .ok (.ior, 1) := by decide +kernel
theorem dX5_stretch_19 : decode cX5_stretch 19 = .ok (.istore_n 2, 1) := by decide +kernel
theorem dX5_stretch_20 : decode cX5_stretch 20 = .ok (.iinc 3 1, 3) := by decide +kernel
theorem dX5_stretch_23 : decode cX5_stretch 23 = .ok (.goto (-19), 3) := by decide +kernel
theorem dX5_stretch_26 : decode cX5_stretch 26 = .ok (.iload_n 2, 1) := by decide +kernel
theorem dX5_stretch_27 : decode cX5_stretch 27 = .ok (.ireturn, 1) := by decide +kernel
theorem dX5_shout_0 : decode cX5_shout 0 = .ok (.iload_n 1, 1) := by decide +kernel
theorem dX5_shout_1 : decode cX5_shout 1 = .ok (.iconst 1, 1) := by decide +kernel
theorem dX5_shout_2 : decode cX5_shout 2 = .ok (.bipush 12, 2) := by decide +kernel
theorem dX5_shout_4 : decode cX5_shout 4 = .ok (.invokestatic 38, 3) := by decide +kernel
theorem dX5_shout_7 : decode cX5_shout 7 = .ok (.ifCond .ne 6, 3) := by decide +kernel
theorem dX5_shout_10 : decode cX5_shout 10 = .ok (.bipush (-2), 2) := by decide +kernel
theorem dX5_shout_12 : decode cX5_shout 12 = .ok (.ireturn, 1) := by decide +kernel
theorem dX5_shout_13 : decode cX5_shout 13 = .ok (.iconst 0, 1) := by decide +kernel
theorem dX5_shout_14 : decode cX5_shout 14 = .ok (.istore_n 2, 1) := by decide +kernel
theorem dX5_shout_15 : decode cX5_shout 15 = .ok (.iload_n 2, 1) := by decide +kernel
theorem dX5_shout_16 : decode cX5_shout 16 = .ok (.bipush 100, 2) := by decide +kernel
theorem dX5_shout_18 : decode cX5_shout 18 = .ok (.if_icmp .ge 88, 3) := by decide +kernel
theorem dX5_shout_21 : decode cX5_shout 21 = .ok (.aload_n 0, 1) := by decide +kernel
theorem dX5_shout_22 : decode cX5_shout 22 = .ok (.invokevirtual 83, 3) := by decide +kernel
theorem dX5_shout_25 : decode cX5_shout 25 = .ok (.aload_n 0, 1) := by decide +kernel
theorem dX5_shout_26 : decode cX5_shout 26 = .ok (.getfield 13, 3) := by decide +kernel
theorem dX5_shout_29 : decode cX5_shout 29 = .ok (.bipush 12, 2) := by decide +kernel
theorem dX5_shout_31 : decode cX5_shout 31 = .ok (.aload_n 0, 1) := by decide +kernel
theorem dX5_shout_32 : decode cX5_shout 32 = .ok (.getfield 13, 3) := by decide +kernel
theorem dX5_shout_35 : decode cX5_shout 35 = .ok (.bipush 12, 2) := by decide +kernel
theorem dX5_shout_37 : decode cX5_shout 37 = .ok (.iaload, 1) := by decide +kernel
theorem dX5_shout_38 : decode cX5_shout 38 = .ok (.iload_n 2, 1) := by decide +kernel
theorem dX5_shout_39 : decode cX5_shout 39 = .ok (.iadd, 1) := by decide +kernel
theorem dX5_shout_40 : decode cX5_shout 40 = .ok (.bipush 99, 2) := by decide +kernel
theorem dX5_shout_42 : decode cX5_shout 42 = .ok (.if_icmp .le 8, 3) := by decide +kernel
theorem dX5_shout_45 : decode cX5_shout 45 = .ok (.bipush 99, 2) := by decide +kernel
theorem dX5_shout_47 : decode cX5_shout 47 = .ok (.goto 12, 3) := by decide +kernel
theorem dX5_shout_50 : decode cX5_shout 50 = .ok (.aload_n 0, 1) := by decide +kernel
theorem dX5_shout_51 : decode cX5_shout 51 = .ok (.getfield 13, 3) := by decide +kernel
theorem dX5_shout_54 : decode cX5_shout 54 = .ok (.bipush 12, 2) := by decide +kernel
theorem dX5_shout_56 : decode cX5_shout 56 = .ok (.iaload, 1) := by decide +kernel
theorem dX5_shout_57 : decode cX5_shout 57 = .ok (.iload_n 2, 1) := by decide +kernel
theorem dX5_shout_58 : decode cX5_shout 58 = .ok (.iadd, 1) := by decide +kernel
theorem dX5_shout_59 : decode cX5_shout 59 = .ok (.iastore, 1) := by decide +kernel
theorem dX5_shout_60 : decode cX5_shout 60 = .ok (.aload_n 0, 1) := by decide +kernel
theorem dX5_shout_61 : decode cX5_shout 61 = .ok (.invokevirtual 77, 3) := by decide +kernel
theorem dX5_shout_64 : decode cX5_shout 64 = .ok (.aload_n 0, 1) := by decide +kernel
theorem dX5_shout_65 : decode cX5_shout 65 = .ok (.invokevirtual 101, 3) := by decide +kernel
theorem dX5_shout_68 : decode cX5_shout 68 = .ok (.istore_n 3, 1) := by decide +kernel
theorem dX5_shout_69 : decode cX5_shout 69 = .ok (.iconst 0, 1) := by decide +kernel
theorem dX5_shout_70 : decode cX5_shout 70 = .ok (.istore 4, 2) := by decide +kernel
theorem dX5_shout_72 : decode cX5_shout 72 = .ok (.iload 4, 2) := by decide +kernel
theorem dX5_shout_74 : decode cX5_shout 74 = .ok (.bipush 12, 2) := by decide +kernel
theorem dX5_shout_76 : decode cX5_shout 76 = .ok (.if_icmp .ge 24, 3) := by decide +kernel
theorem dX5_shout_79 : decode cX5_shout 79 = .ok (.iload 4, 2) := by decide +kernel
theorem dX5_shout_81 : decode cX5_shout 81 = .ok (.iload_n 1, 1) := by decide +kernel
theorem dX5_shout_82 : decode cX5_shout 82 = .ok (.invokestatic 113, 3) := by decide +kernel
theorem dX5_shout_85 : decode cX5_shout 85 = .ok (.iload_n 3, 1) := by decide +kernel
theorem dX5_shout_86 : decode cX5_shout 86 = .ok (.iconst (-1), 1) := by decide +kernel
theorem dX5_shout_87 : decode cX5_shout 87 = .ok (.ixor, 1) := by decide +kernel
theorem dX5_shout_88 : decode cX5_shout 88 = .ok (.iand, 1) := by decide +kernel
theorem dX5_shout_89 : decode cX5_shout 89 = .ok (.ifCond .ne 5, 3) := by decide +kernel
theorem dX5_shout_92 : decode cX5_shout 92 = .ok (.iload_n 2, 1) := by decide +kernel
theorem dX5_shout_93 : decode cX5_shout 93 = .ok (.ireturn, 1) := by decide +kernel
theorem dX5_shout_94 : decode cX5_shout 94 = .ok (.iinc 4 1, 3) := by decide +kernel
theorem dX5_shout_97 : decode cX5_shout 97 = .ok (.goto (-25), 3) := by decide +kernel
theorem dX5_shout_100 : decode cX5_shout 100 = .ok (.iinc 2 1, 3) := by decide +kernel
theorem dX5_shout_103 : decode cX5_shout 103 = .ok (.goto (-88), 3) := by decide +kernel
theorem dX5_shout_106 : decode cX5_shout 106 = .ok (.bipush (-6), 2) := by decide +kernel
theorem dX5_shout_108 : decode cX5_shout 108 = .ok (.ireturn, 1) := by decide +kernel
theorem dX5_horns_0 : decode cX5_horns 0 = .ok (.iload_n 1, 1) := by decide +kernel
theorem dX5_horns_1 : decode cX5_horns 1 = .ok (.iconst 0, 1) := by decide +kernel
theorem dX5_horns_2 : decode cX5_horns 2 = .ok (.iconst 3, 1) := by decide +kernel
theorem dX5_horns_3 : decode cX5_horns 3 = .ok (.invokestatic 38, 3) := by decide +kernel
theorem dX5_horns_6 : decode cX5_horns 6 = .ok (.ifCond .eq 12, 3) := by decide +kernel
theorem dX5_horns_9 : decode cX5_horns 9 = .ok (.iload_n 2, 1) := by decide +kernel
theorem dX5_horns_10 : decode cX5_horns 10 = .ok (.iconst 0, 1) := by decide +kernel
theorem dX5_horns_11 : decode cX5_horns 11 = .ok (.iconst 1, 1) := by decide +kernel
theorem dX5_horns_12 : decode cX5_horns 12 = .ok (.invokestatic 38, 3) := by decide +kernel
theorem dX5_horns_15 : decode cX5_horns 15 = .ok (.ifCond .ne 6, 3) := by decide +kernel
theorem dX5_horns_18 : decode cX5_horns 18 = .ok (.bipush (-2), 2) := by decide +kernel
theorem dX5_horns_20 : decode cX5_horns 20 = .ok (.ireturn, 1) := by decide +kernel
theorem dX5_horns_21 : decode cX5_horns 21 = .ok (.iconst 1, 1) := by decide +kernel
theorem dX5_horns_22 : decode cX5_horns 22 = .ok (.istore_n 3, 1) := by decide +kernel
theorem dX5_horns_23 : decode cX5_horns 23 = .ok (.iconst 0, 1) := by decide +kernel
theorem dX5_horns_24 : decode cX5_horns 24 = .ok (.istore 4, 2) := by decide +kernel
theorem dX5_horns_26 : decode cX5_horns 26 = .ok (.iload 4, 2) := by decide +kernel
theorem dX5_horns_28 : decode cX5_horns 28 = .ok (.iload_n 1, 1) := by decide +kernel
theorem dX5_horns_29 : decode cX5_horns 29 = .ok (.if_icmp .ge 14, 3) := by decide +kernel
theorem dX5_horns_32 : decode cX5_horns 32 = .ok (.iload_n 3, 1) := by decide +kernel
theorem dX5_horns_33 : decode cX5_horns 33 = .ok (.bipush 10, 2) := by decide +kernel
theorem dX5_horns_35 : decode cX5_horns 35 = .ok (.imul, 1) := by decide +kernel
theorem dX5_horns_36 : decode cX5_horns 36 = .ok (.istore_n 3, 1) := by decide +kernel
theorem dX5_horns_37 : decode cX5_horns 37 = .ok (.iinc 4 1, 3) := by decide +kernel
theorem dX5_horns_40 : decode cX5_horns 40 = .ok (.goto (-14), 3) := by decide +kernel
theorem dX5_horns_43 : decode cX5_horns 43 = .ok (.iconst (-1), 1) := by decide +kernel
theorem dX5_horns_44 : decode cX5_horns 44 = .ok (.istore 4, 2) := by decide +kernel
theorem dX5_horns_46 : decode cX5_horns 46 = .ok (.iconst 0, 1) := by decide +kernel
theorem dX5_horns_47 : decode cX5_horns 47 = .ok (.istore 5, 2) := by decide +kernel
theorem dX5_horns_49 : decode cX5_horns 49 = .ok (.iconst 0, 1) := by decide +kernel
theorem dX5_horns_50 : decode cX5_horns 50 = .ok (.istore 6, 2) := by decide +kernel
theorem dX5_horns_52 : decode cX5_horns 52 = .ok (.iload 6, 2) := by decide +kernel
theorem dX5_horns_54 : decode cX5_horns 54 = .ok (.iload_n 3, 1) := by decide +kernel
theorem dX5_horns_55 : decode cX5_horns 55 = .ok (.if_icmp .ge 99, 3) := by decide +kernel
theorem dX5_horns_58 : decode cX5_horns 58 = .ok (.aload_n 0, 1) := by decide +kernel
theorem dX5_horns_59 : decode cX5_horns 59 = .ok (.invokevirtual 83, 3) := by decide +kernel
theorem dX5_horns_62 : decode cX5_horns 62 = .ok (.iload 6, 2) := by decide +kernel
theorem dX5_horns_64 : decode cX5_horns 64 = .ok (.istore 7, 2) := by decide +kernel
theorem dX5_horns_66 : decode cX5_horns 66 = .ok (.iload_n 3, 1) := by decide +kernel
theorem dX5_horns_67 : decode cX5_horns 67 = .ok (.istore 8, 2) := by decide +kernel
theorem dX5_horns_69 : decode cX5_horns 69 = .ok (.iconst 0, 1) := by decide +kernel
theorem dX5_horns_70 : decode cX5_horns 70 = .ok (.istore 9, 2) := by decide +kernel
theorem dX5_horns_72 : decode cX5_horns 72 = .ok (.iload 9, 2) := by decide +kernel
theorem dX5_horns_74 : decode cX5_horns 74 = .ok (.iload_n 1, 1) := by decide +kernel
theorem dX5_horns_75 : decode cX5_horns 75 = .ok (.if_icmp .ge 32, 3) := by decide +kernel
theorem dX5_horns_78 : decode cX5_horns 78 = .ok (.iload 8, 2) := by decide +kernel
theorem dX5_horns_80 : decode cX5_horns 80 = .ok (.bipush 10, 2) := by decide +kernel
theorem dX5_horns_82 : decode cX5_horns 82 = .ok (.idiv, 1) := by decide +kernel
theorem dX5_horns_83 : decode cX5_horns 83 = .ok (.istore 8, 2) := by decide +kernel
theorem dX5_horns_85 : decode cX5_horns 85 = .ok (.aload_n 0, 1) := by decide +kernel
theorem dX5_horns_86 : decode cX5_horns 86 = .ok (.iload 7, 2) := by decide +kernel
theorem dX5_horns_88 : decode cX5_horns 88 = .ok (.iload 8, 2) := by decide +kernel
theorem dX5_horns_90 : decode cX5_horns 90 = .ok (.idiv, 1) := by decide +kernel
theorem dX5_horns_91 : decode cX5_horns 91 = .ok (.invokevirtual 73, 3) := by decide +kernel
theorem dX5_horns_94 : decode cX5_horns 94 = .ok (.iload 7, 2) := by decide +kernel
theorem dX5_horns_96 : decode cX5_horns 96 = .ok (.iload 8, 2) := by decide +kernel
theorem dX5_horns_98 : decode cX5_horns 98 = .ok (.irem, 1) := by decide +kernel
theorem dX5_horns_99 : decode cX5_horns 99 = .ok (.istore 7, 2) := by decide +kernel
theorem dX5_horns_101 : decode cX5_horns 101 = .ok (.iinc 9 1, 3) := by decide +kernel
theorem dX5_horns_104 : decode cX5_horns 104 = .ok (.goto (-32), 3) := by decide +kernel
theorem dX5_horns_107 : decode cX5_horns 107 = .ok (.aload_n 0, 1) := by decide +kernel
theorem dX5_horns_108 : decode cX5_horns 108 = .ok (.invokevirtual 101, 3) := by decide +kernel
theorem dX5_horns_111 : decode cX5_horns 111 = .ok (.invokestatic 50, 3) := by decide +kernel
theorem dX5_horns_114 : decode cX5_horns 114 = .ok (.istore 9, 2) := by decide +kernel
theorem dX5_horns_116 : decode cX5_horns 116 = .ok (.iload 9, 2) := by decide +kernel
theorem dX5_horns_118 : decode cX5_horns 118 = .ok (.iload 4, 2) := by decide +kernel
theorem dX5_horns_120 : decode cX5_horns 120 = .ok (.if_icmp .le 8, 3) := by decide +kernel
theorem dX5_horns_123 : decode cX5_horns 123 = .ok (.iload 6, 2) := by decide +kernel
theorem dX5_horns_125 : decode cX5_horns 125 = .ok (.goto 5, 3) := by decide +kernel
theorem dX5_horns_128 : decode cX5_horns 128 = .ok (.iload 5, 2) := by decide +kernel
theorem dX5_horns_130 : decode cX5_horns 130 = .ok (.istore 5, 2) := by decide +kernel
theorem dX5_horns_132 : decode cX5_horns 132 = .ok (.iload 9, 2) := by decide +kernel
theorem dX5_horns_134 : decode cX5_horns 134 = .ok (.iload 4, 2) := by decide +kernel
theorem dX5_horns_136 : decode cX5_horns 136 = .ok (.if_icmp .le 8, 3) := by decide +kernel
theorem dX5_horns_139 : decode cX5_horns 139 = .ok (.iload 9, 2) := by decide +kernel
theorem dX5_horns_141 : decode cX5_horns 141 = .ok (.goto 5, 3) := by decide +kernel
theorem dX5_horns_144 : decode cX5_horns 144 = .ok (.iload 4, 2) := by decide +kernel
theorem dX5_horns_146 : decode cX5_horns 146 = .ok (.istore 4, 2) := by decide +kernel
theorem dX5_horns_148 : decode cX5_horns 148 = .ok (.iinc 6 1, 3) := by decide +kernel
theorem dX5_horns_151 : decode cX5_horns 151 = .ok (.goto (-99), 3) := by decide +kernel
theorem dX5_horns_154 : decode cX5_horns 154 = .ok (.iload_n 2, 1) := by decide +kernel
theorem dX5_horns_155 : decode cX5_horns 155 = .ok (.ifCond .ne 8, 3) := by decide +kernel
theorem dX5_horns_158 : decode cX5_horns 158 = .ok (.iload 4, 2) := by decide +kernel
theorem dX5_horns_160 : decode cX5_horns 160 = .ok (.goto 5, 3) := by decide +kernel
theorem dX5_horns_163 : decode cX5_horns 163 = .ok (.iload 5, 2) := by decide +kernel
theorem dX5_horns_165 : decode cX5_horns 165 = .ok (.ireturn, 1) := by decide +kernel
theorem dX5_weakest_0 : decode cX5_weakest 0 = .ok (.iload_n 1, 1) := by decide +kernel
theorem dX5_weakest_1 : decode cX5_weakest 1 = .ok (.iconst 1, 1) := by decide +kernel
theorem dX5_weakest_2 : decode cX5_weakest 2 = .ok (.bipush 12, 2) := by decide +kernel
theorem dX5_weakest_4 : decode cX5_weakest 4 = .ok (.invokestatic 38, 3) := by decide +kernel
theorem dX5_weakest_7 : decode cX5_weakest 7 = .ok (.ifCond .eq 12, 3) := by decide +kernel
theorem dX5_weakest_10 : decode cX5_weakest 10 = .ok (.iload_n 2, 1) := by decide +kernel
theorem dX5_weakest_11 : decode cX5_weakest 11 = .ok (.iconst 0, 1) := by decide +kernel
theorem dX5_weakest_12 : decode cX5_weakest 12 = .ok (.iconst 1, 1) := by decide +kernel
theorem dX5_weakest_13 : decode cX5_weakest 13 = .ok (.invokestatic 38, 3) := by decide +kernel
theorem dX5_weakest_16 : decode cX5_weakest 16 = .ok (.ifCond .ne 6, 3) := by decide +kernel
theorem dX5_weakest_19 : decode cX5_weakest 19 = .ok (.bipush (-2), 2) := by decide +kernel
theorem dX5_weakest_21 : decode cX5_weakest 21 = .ok (.ireturn, 1) := by decide +kernel
theorem dX5_weakest_22 : decode cX5_weakest 22 = .ok (.iconst 0, 1) := by decide +kernel
theorem dX5_weakest_23 : decode cX5_weakest 23 = .ok (.istore_n 3, 1) := by decide +kernel
theorem dX5_weakest_24 : decode cX5_weakest 24 = .ok (.ldc 116, 2) := by decide +kernel
theorem dX5_weakest_26 : decode cX5_weakest 26 = .ok (.istore 4, 2) := by decide +kernel
theorem dX5_weakest_28 : decode cX5_weakest 28 = .ok (.iconst 0, 1) := by decide +kernel
theorem dX5_weakest_29 : decode cX5_weakest 29 = .ok (.istore 5, 2) := by decide +kernel
theorem dX5_weakest_31 : decode cX5_weakest 31 = .ok (.iload 5, 2) := by decide +kernel
theorem dX5_weakest_33 : decode cX5_weakest 33 = .ok (.bipush 12, 2) := by decide +kernel
theorem dX5_weakest_35 : decode cX5_weakest 35 = .ok (.if_icmp .ge 75, 3) := by decide +kernel
theorem dX5_weakest_38 : decode cX5_weakest 38 = .ok (.iconst 0, 1) := by decide +kernel
theorem dX5_weakest_39 : decode cX5_weakest 39 = .ok (.istore 6, 2) := by decide +kernel
theorem dX5_weakest_41 : decode cX5_weakest 41 = .ok (.iconst 0, 1) := by decide +kernel
theorem dX5_weakest_42 : decode cX5_weakest 42 = .ok (.istore 7, 2) := by decide +kernel
theorem dX5_weakest_44 : decode cX5_weakest 44 = .ok (.iload 7, 2) := by decide +kernel
theorem dX5_weakest_46 : decode cX5_weakest 46 = .ok (.iload_n 1, 1) := by decide +kernel
theorem dX5_weakest_47 : decode cX5_weakest 47 = .ok (.if_icmp .ge 27, 3) := by decide +kernel
theorem dX5_weakest_50 : decode cX5_weakest 50 = .ok (.iload 6, 2) := by decide +kernel
theorem dX5_weakest_52 : decode cX5_weakest 52 = .ok (.aload_n 0, 1) := by decide +kernel
theorem dX5_weakest_53 : decode cX5_weakest 53 = .ok (.getfield 7, 3) := by decide +kernel
theorem dX5_weakest_56 : decode cX5_weakest 56 = .ok (.iload 5, 2) := by decide +kernel
theorem dX5_weakest_58 : decode cX5_weakest 58 = .ok (.iload 7, 2) := by decide +kernel
theorem dX5_weakest_60 : decode cX5_weakest 60 = .ok (.iadd, 1) := by decide +kernel
theorem dX5_weakest_61 : decode cX5_weakest 61 = .ok (.bipush 12, 2) := by decide +kernel
theorem dX5_weakest_63 : decode cX5_weakest 63 = .ok (.irem, 1) := by decide +kernel
theorem dX5_weakest_64 : decode cX5_weakest 64 = .ok (.iaload, 1) := by decide +kernel
theorem dX5_weakest_65 : decode cX5_weakest 65 = .ok (.iadd, 1) := by decide +kernel
theorem dX5_weakest_66 : decode cX5_weakest 66 = .ok (.istore 6, 2) := by decide +kernel
theorem dX5_weakest_68 : decode cX5_weakest 68 = .ok (.iinc 7 1, 3) := by decide +kernel
theorem dX5_weakest_71 : decode cX5_weakest 71 = .ok (.goto (-27), 3) := by decide +kernel
theorem dX5_weakest_74 : decode cX5_weakest 74 = .ok (.iload 6, 2) := by decide +kernel
theorem dX5_weakest_76 : decode cX5_weakest 76 = .ok (.iload 4, 2) := by decide +kernel
theorem dX5_weakest_78 : decode cX5_weakest 78 = .ok (.if_icmp .ge 8, 3) := by decide +kernel
theorem dX5_weakest_81 : decode cX5_weakest 81 = .ok (.iload 5, 2) := by decide +kernel
theorem dX5_weakest_83 : decode cX5_weakest 83 = .ok (.goto 4, 3) := by decide +kernel
theorem dX5_weakest_86 : decode cX5_weakest 86 = .ok (.iload_n 3, 1) := by decide +kernel
theorem dX5_weakest_87 : decode cX5_weakest 87 = .ok (.istore_n 3, 1) := by decide +kernel
theorem dX5_weakest_88 : decode cX5_weakest 88 = .ok (.iload 6, 2) := by decide +kernel
theorem dX5_weakest_90 : decode cX5_weakest 90 = .ok (.iload 4, 2) := by decide +kernel
theorem dX5_weakest_92 : decode cX5_weakest 92 = .ok (.if_icmp .ge 8, 3) := by decide +kernel
theorem dX5_weakest_95 : decode cX5_weakest 95 = .ok (.iload 6, 2) := by decide +kernel
theorem dX5_weakest_97 : decode cX5_weakest 97 = .ok (.goto 5, 3) := by decide +kernel
theorem dX5_weakest_100 : decode cX5_weakest 100 = .ok (.iload 4, 2) := by decide +kernel
theorem dX5_weakest_102 : decode cX5_weakest 102 = .ok (.istore 4, 2) := by decide +kernel
theorem dX5_weakest_104 : decode cX5_weakest 104 = .ok (.iinc 5 1, 3) := by decide +kernel
theorem dX5_weakest_107 : decode cX5_weakest 107 = .ok (.goto (-76), 3) := by decide +kernel
theorem dX5_weakest_110 : decode cX5_weakest 110 = .ok (.iload_n 2, 1) := by decide +kernel
theorem dX5_weakest_111 : decode cX5_weakest 111 = .ok (.ifCond .ne 7, 3) := by decide +kernel
theorem dX5_weakest_114 : decode cX5_weakest 114 = .ok (.iload_n 3, 1) := by decide +kernel
theorem dX5_weakest_115 : decode cX5_weakest 115 = .ok (.goto 5, 3) := by decide +kernel
theorem dX5_weakest_118 : decode cX5_weakest 118 = .ok (.iload 4, 2) := by decide +kernel
theorem dX5_weakest_120 : decode cX5_weakest 120 = .ok (.ireturn, 1) := by decide +kernel
theorem dX5_watch_0 : decode cX5_watch 0 = .ok (.iload_n 1, 1) := by decide +kernel
theorem dX5_watch_1 : decode cX5_watch 1 = .ok (.iconst 0, 1) := by decide +kernel
theorem dX5_watch_2 : decode cX5_watch 2 = .ok (.sipush 4095, 3) := by decide +kernel
theorem dX5_watch_5 : decode cX5_watch 5 = .ok (.invokestatic 38, 3) := by decide +kernel
theorem dX5_watch_8 : decode cX5_watch 8 = .ok (.ifCond .eq 21, 3) := by decide +kernel
theorem dX5_watch_11 : decode cX5_watch 11 = .ok (.iload_n 2, 1) := by decide +kernel
theorem dX5_watch_12 : decode cX5_watch 12 = .ok (.iconst 0, 1) := by decide +kernel
theorem dX5_watch_13 : decode cX5_watch 13 = .ok (.iconst 3, 1) := by decide +kernel
theorem dX5_watch_14 : decode cX5_watch 14 = .ok (.invokestatic 38, 3) := by decide +kernel
theorem dX5_watch_17 : decode cX5_watch 17 = .ok (.ifCond .eq 12, 3) := by decide +kernel
theorem dX5_watch_20 : decode cX5_watch 20 = .ok (.iload_n 3, 1) := by decide +kernel
theorem dX5_watch_21 : decode cX5_watch 21 = .ok (.iconst 0, 1) := by decide +kernel
theorem dX5_watch_22 : decode cX5_watch 22 = .ok (.iconst 1, 1) := by decide +kernel
theorem dX5_watch_23 : decode cX5_watch 23 = .ok (.invokestatic 38, 3) := by decide +kernel
theorem dX5_watch_26 : decode cX5_watch 26 = .ok (.ifCond .ne 6, 3) := by decide +kernel
theorem dX5_watch_29 : decode cX5_watch 29 = .ok (.bipush (-2), 2) := by decide +kernel
theorem dX5_watch_31 : decode cX5_watch 31 = .ok (.ireturn, 1) := by decide +kernel
theorem dX5_watch_32 : decode cX5_watch 32 = .ok (.bipush (-6), 2) := by decide +kernel
theorem dX5_watch_34 : decode cX5_watch 34 = .ok (.istore 4, 2) := by decide +kernel
theorem dX5_watch_36 : decode cX5_watch 36 = .ok (.iconst 0, 1) := by decide +kernel
theorem dX5_watch_37 : decode cX5_watch 37 = .ok (.istore 5, 2) := by decide +kernel
theorem dX5_watch_39 : decode cX5_watch 39 = .ok (.iload 5, 2) := by decide +kernel
theorem dX5_watch_41 : decode cX5_watch 41 = .ok (.sipush 4096, 3) := by decide +kernel
theorem dX5_watch_44 : decode cX5_watch 44 = .ok (.if_icmp .ge 98, 3) := by decide +kernel
theorem dX5_watch_47 : decode cX5_watch 47 = .ok (.iload 4, 2) := by decide +kernel
theorem dX5_watch_49 : decode cX5_watch 49 = .ok (.ifCond .lt 16, 3) := by decide +kernel
theorem dX5_watch_52 : decode cX5_watch 52 = .ok (.iload 5, 2) := by decide +kernel
theorem dX5_watch_54 : decode cX5_watch 54 = .ok (.invokestatic 50, 3) := by decide +kernel
theorem dX5_watch_57 : decode cX5_watch 57 = .ok (.iload 4, 2) := by decide +kernel
theorem dX5_watch_59 : decode cX5_watch 59 = .ok (.invokestatic 50, 3) := by decide +kernel
theorem dX5_watch_62 : decode cX5_watch 62 = .ok (.if_icmp .ge 74, 3) := by decide +kernel
theorem dX5_watch_65 : decode cX5_watch 65 = .ok (.iconst 0, 1) := by decide +kernel
theorem dX5_watch_66 : decode cX5_watch 66 = .ok (.istore 6, 2) := by decide +kernel
theorem dX5_watch_68 : decode cX5_watch 68 = .ok (.iconst 0, 1) := by decide +kernel
theorem dX5_watch_69 : decode cX5_watch 69 = .ok (.istore 7, 2) := by decide +kernel
theorem dX5_watch_71 : decode cX5_watch 71 = .ok (.iload 7, 2) := by decide +kernel
theorem dX5_watch_73 : decode cX5_watch 73 = .ok (.bipush 12, 2) := by decide +kernel
theorem dX5_watch_75 : decode cX5_watch 75 = .ok (.if_icmp .ge 43, 3) := by decide +kernel
theorem dX5_watch_78 : decode cX5_watch 78 = .ok (.iload 6, 2) := by decide +kernel
theorem dX5_watch_80 : decode cX5_watch 80 = .ok (.iload 5, 2) := by decide +kernel
theorem dX5_watch_82 : decode cX5_watch 82 = .ok (.iload 7, 2) := by decide +kernel
theorem dX5_watch_84 : decode cX5_watch 84 = .ok (.invokestatic 61, 3) := by decide +kernel
theorem dX5_watch_87 : decode cX5_watch 87 = .ok (.ifCond .eq 21, 3) := by decide +kernel
theorem dX5_watch_90 : decode cX5_watch 90 = .ok (.iload 7, 2) := by decide +kernel
theorem dX5_watch_92 : decode cX5_watch 92 = .ok (.bipush 12, 2) := by decide +kernel
theorem dX5_watch_94 : decode cX5_watch 94 = .ok (.iadd, 1) := by decide +kernel
theorem dX5_watch_95 : decode cX5_watch 95 = .ok (.iload_n 2, 1) := by decide +kernel
theorem dX5_watch_96 : decode cX5_watch 96 = .ok (.isub, 1) := by decide +kernel
theorem dX5_watch_97 : decode cX5_watch 97 = .ok (.iconst 2, 1) := by decide +kernel
theorem dX5_watch_98 : decode cX5_watch 98 = .ok (.iload_n 2, 1) := by decide +kernel
theorem dX5_watch_99 : decode cX5_watch 99 = .ok (.imul, 1) := by decide +kernel
theorem dX5_watch_100 : decode cX5_watch 100 = .ok (.iconst 1, 1) := by decide +kernel
theorem dX5_watch_101 : decode cX5_watch 101 = .ok (.iadd, 1) := by decide +kernel
theorem dX5_watch_102 : decode cX5_watch 102 = .ok (.invokestatic 113, 3) := by decide +kernel
theorem dX5_watch_105 : decode cX5_watch 105 = .ok (.goto 4, 3) := by decide +kernel
theorem dX5_watch_108 : decode cX5_watch 108 = .ok (.iconst 0, 1) := by decide +kernel
theorem dX5_watch_109 : decode cX5_watch 109 = .ok (.ior, 1) := by decide +kernel
theorem dX5_watch_110 : decode cX5_watch 110 = .ok (.istore 6, 2) := by decide +kernel
theorem dX5_watch_112 : decode cX5_watch 112 = .ok (.iinc 7 1, 3) := by decide +kernel
theorem dX5_watch_115 : decode cX5_watch 115 = .ok (.goto (-44), 3) := by decide +kernel
theorem dX5_watch_118 : decode cX5_watch 118 = .ok (.iload_n 1, 1) := by decide +kernel
theorem dX5_watch_119 : decode cX5_watch 119 = .ok (.iload 6, 2) := by decide +kernel
theorem dX5_watch_121 : decode cX5_watch 121 = .ok (.iconst (-1), 1) := by decide +kernel
theorem dX5_watch_122 : decode cX5_watch 122 = .ok (.ixor, 1) := by decide +kernel
theorem dX5_watch_123 : decode cX5_watch 123 = .ok (.iand, 1) := by decide +kernel
theorem dX5_watch_124 : decode cX5_watch 124 = .ok (.ifCond .ne 8, 3) := by decide +kernel
theorem dX5_watch_127 : decode cX5_watch 127 = .ok (.iload 5, 2) := by decide +kernel
theorem dX5_watch_129 : decode cX5_watch 129 = .ok (.goto 5, 3) := by decide +kernel
theorem dX5_watch_132 : decode cX5_watch 132 = .ok (.iload 4, 2) := by decide +kernel
theorem dX5_watch_134 : decode cX5_watch 134 = .ok (.istore 4, 2) := by decide +kernel
theorem dX5_watch_136 : decode cX5_watch 136 = .ok (.iinc 5 1, 3) := by decide +kernel
theorem dX5_watch_139 : decode cX5_watch 139 = .ok (.goto (-100), 3) := by decide +kernel
theorem dX5_watch_142 : decode cX5_watch 142 = .ok (.iload_n 3, 1) := by decide +kernel
theorem dX5_watch_143 : decode cX5_watch 143 = .ok (.iconst 1, 1) := by decide +kernel
theorem dX5_watch_144 : decode cX5_watch 144 = .ok (.if_icmp .ne 8, 3) := by decide +kernel
theorem dX5_watch_147 : decode cX5_watch 147 = .ok (.iload 4, 2) := by decide +kernel
theorem dX5_watch_149 : decode cX5_watch 149 = .ok (.goto 8, 3) := by decide +kernel
theorem dX5_watch_152 : decode cX5_watch 152 = .ok (.iload 4, 2) := by decide +kernel
theorem dX5_watch_154 : decode cX5_watch 154 = .ok (.invokestatic 50, 3) := by decide +kernel
theorem dX5_watch_157 : decode cX5_watch 157 = .ok (.ireturn, 1) := by decide +kernel
theorem dX5_seen_0 : decode cX5_seen 0 = .ok (.iload_n 1, 1) := by decide +kernel
theorem dX5_seen_1 : decode cX5_seen 1 = .ok (.iconst 0, 1) := by decide +kernel
theorem dX5_seen_2 : decode cX5_seen 2 = .ok (.bipush 9, 2) := by decide +kernel
theorem dX5_seen_4 : decode cX5_seen 4 = .ok (.invokestatic 38, 3) := by decide +kernel
theorem dX5_seen_7 : decode cX5_seen 7 = .ok (.ifCond .eq 12, 3) := by decide +kernel
theorem dX5_seen_10 : decode cX5_seen 10 = .ok (.iload_n 2, 1) := by decide +kernel
theorem dX5_seen_11 : decode cX5_seen 11 = .ok (.iconst 0, 1) := by decide +kernel
theorem dX5_seen_12 : decode cX5_seen 12 = .ok (.iconst 2, 1) := by decide +kernel
theorem dX5_seen_13 : decode cX5_seen 13 = .ok (.invokestatic 38, 3) := by decide +kernel
theorem dX5_seen_16 : decode cX5_seen 16 = .ok (.ifCond .ne 6, 3) := by decide +kernel
theorem dX5_seen_19 : decode cX5_seen 19 = .ok (.bipush (-2), 2) := by decide +kernel
theorem dX5_seen_21 : decode cX5_seen 21 = .ok (.ireturn, 1) := by decide +kernel
theorem dX5_seen_22 : decode cX5_seen 22 = .ok (.aload_n 0, 1) := by decide +kernel
theorem dX5_seen_23 : decode cX5_seen 23 = .ok (.getfield 117, 3) := by decide +kernel
theorem dX5_seen_26 : decode cX5_seen 26 = .ok (.bipush 8, 2) := by decide +kernel
theorem dX5_seen_28 : decode cX5_seen 28 = .ok (.if_icmp .ne 6, 3) := by decide +kernel
theorem dX5_seen_31 : decode cX5_seen 31 = .ok (.bipush (-4), 2) := by decide +kernel
theorem dX5_seen_33 : decode cX5_seen 33 = .ok (.ireturn, 1) := by decide +kernel
theorem dX5_seen_34 : decode cX5_seen 34 = .ok (.aload_n 0, 1) := by decide +kernel
theorem dX5_seen_35 : decode cX5_seen 35 = .ok (.getfield 22, 3) := by decide +kernel
theorem dX5_seen_38 : decode cX5_seen 38 = .ok (.iconst 2, 1) := by decide +kernel
theorem dX5_seen_39 : decode cX5_seen 39 = .ok (.aload_n 0, 1) := by decide +kernel
theorem dX5_seen_40 : decode cX5_seen 40 = .ok (.getfield 117, 3) := by decide +kernel
theorem dX5_seen_43 : decode cX5_seen 43 = .ok (.imul, 1) := by decide +kernel
theorem dX5_seen_44 : decode cX5_seen 44 = .ok (.iload_n 1, 1) := by decide +kernel
theorem dX5_seen_45 : decode cX5_seen 45 = .ok (.iastore, 1) := by decide +kernel
theorem dX5_seen_46 : decode cX5_seen 46 = .ok (.aload_n 0, 1) := by decide +kernel
theorem dX5_seen_47 : decode cX5_seen 47 = .ok (.getfield 22, 3) := by decide +kernel
theorem dX5_seen_50 : decode cX5_seen 50 = .ok (.iconst 2, 1) := by decide +kernel
theorem dX5_seen_51 : decode cX5_seen 51 = .ok (.aload_n 0, 1) := by decide +kernel
theorem dX5_seen_52 : decode cX5_seen 52 = .ok (.getfield 117, 3) := by decide +kernel
theorem dX5_seen_55 : decode cX5_seen 55 = .ok (.imul, 1) := by decide +kernel
theorem dX5_seen_56 : decode cX5_seen 56 = .ok (.iconst 1, 1) := by decide +kernel
theorem dX5_seen_57 : decode cX5_seen 57 = .ok (.iadd, 1) := by decide +kernel
theorem dX5_seen_58 : decode cX5_seen 58 = .ok (.iload_n 2, 1) := by decide +kernel
theorem dX5_seen_59 : decode cX5_seen 59 = .ok (.iastore, 1) := by decide +kernel
theorem dX5_seen_60 : decode cX5_seen 60 = .ok (.aload_n 0, 1) := by decide +kernel
theorem dX5_seen_61 : decode cX5_seen 61 = .ok (.dup, 1) := by decide +kernel
theorem dX5_seen_62 : decode cX5_seen 62 = .ok (.getfield 117, 3) := by decide +kernel
theorem dX5_seen_65 : decode cX5_seen 65 = .ok (.iconst 1, 1) := by decide +kernel
theorem dX5_seen_66 : decode cX5_seen 66 = .ok (.iadd, 1) := by decide +kernel
theorem dX5_seen_67 : decode cX5_seen 67 = .ok (.putfield 117, 3) := by decide +kernel
theorem dX5_seen_70 : decode cX5_seen 70 = .ok (.aload_n 0, 1) := by decide +kernel
theorem dX5_seen_71 : decode cX5_seen 71 = .ok (.getfield 117, 3) := by decide +kernel
theorem dX5_seen_74 : decode cX5_seen 74 = .ok (.ireturn, 1) := by decide +kernel
theorem dX5_forget_0 : decode cX5_forget 0 = .ok (.aload_n 0, 1) := by decide +kernel
theorem dX5_forget_1 : decode cX5_forget 1 = .ok (.getfield 117, 3) := by decide +kernel
theorem dX5_forget_4 : decode cX5_forget 4 = .ok (.istore_n 1, 1) := by decide +kernel
theorem dX5_forget_5 : decode cX5_forget 5 = .ok (.aload_n 0, 1) := by decide +kernel
theorem dX5_forget_6 : decode cX5_forget 6 = .ok (.iconst 0, 1) := by decide +kernel
theorem dX5_forget_7 : decode cX5_forget 7 = .ok (.putfield 117, 3) := by decide +kernel
theorem dX5_forget_10 : decode cX5_forget 10 = .ok (.iload_n 1, 1) := by decide +kernel
theorem dX5_forget_11 : decode cX5_forget 11 = .ok (.ireturn, 1) := by decide +kernel
theorem dX5_toneSet_0 : decode cX5_toneSet 0 = .ok (.iconst 0, 1) := by decide +kernel
theorem dX5_toneSet_1 : decode cX5_toneSet 1 = .ok (.istore_n 1, 1) := by decide +kernel
theorem dX5_toneSet_2 : decode cX5_toneSet 2 = .ok (.iconst 0, 1) := by decide +kernel
theorem dX5_toneSet_3 : decode cX5_toneSet 3 = .ok (.istore_n 2, 1) := by decide +kernel
theorem dX5_toneSet_4 : decode cX5_toneSet 4 = .ok (.iload_n 2, 1) := by decide +kernel
theorem dX5_toneSet_5 : decode cX5_toneSet 5 = .ok (.bipush 10, 2) := by decide +kernel
theorem dX5_toneSet_7 : decode cX5_toneSet 7 = .ok (.if_icmp .ge 80, 3) := by decide +kernel
theorem dX5_toneSet_10 : decode cX5_toneSet 10 = .ok (.iconst 1, 1) := by decide +kernel
theorem dX5_toneSet_11 : decode cX5_toneSet 11 = .ok (.istore_n 3, 1) := by decide +kernel
theorem dX5_toneSet_12 : decode cX5_toneSet 12 = .ok (.iconst 0, 1) := by decide +kernel
theorem dX5_toneSet_13 : decode cX5_toneSet 13 = .ok (.istore 4, 2) := by decide +kernel
theorem dX5_toneSet_15 : decode cX5_toneSet 15 = .ok (.iload 4, 2) := by decide +kernel
theorem dX5_toneSet_17 : decode cX5_toneSet 17 = .ok (.aload_n 0, 1) := by decide +kernel
theorem dX5_toneSet_18 : decode cX5_toneSet 18 = .ok (.getfield 117, 3) := by decide +kernel
theorem dX5_toneSet_21 : decode cX5_toneSet 21 = .ok (.if_icmp .ge 46, 3) := by decide +kernel
theorem dX5_toneSet_24 : decode cX5_toneSet 24 = .ok (.iload_n 3, 1) := by decide +kernel
theorem dX5_toneSet_25 : decode cX5_toneSet 25 = .ok (.ifCond .eq 34, 3) := by decide +kernel
theorem dX5_toneSet_28 : decode cX5_toneSet 28 = .ok (.aload_n 0, 1) := by decide +kernel
theorem dX5_toneSet_29 : decode cX5_toneSet 29 = .ok (.getfield 22, 3) := by decide +kernel
theorem dX5_toneSet_32 : decode cX5_toneSet 32 = .ok (.iconst 2, 1) := by decide +kernel
theorem dX5_toneSet_33 : decode cX5_toneSet 33 = .ok (.iload 4, 2) := by decide +kernel
theorem dX5_toneSet_35 : decode cX5_toneSet 35 = .ok (.imul, 1) := by decide +kernel
theorem dX5_toneSet_36 : decode cX5_toneSet 36 = .ok (.iaload, 1) := by decide +kernel
theorem dX5_toneSet_37 : decode cX5_toneSet 37 = .ok (.iload_n 2, 1) := by decide +kernel
theorem dX5_toneSet_38 : decode cX5_toneSet 38 = .ok (.invokestatic 65, 3) := by decide +kernel
theorem dX5_toneSet_41 : decode cX5_toneSet 41 = .ok (.aload_n 0, 1) := by decide +kernel
theorem dX5_toneSet_42 : decode cX5_toneSet 42 = .ok (.getfield 22, 3) := by decide +kernel
theorem dX5_toneSet_45 : decode cX5_toneSet 45 = .ok (.iconst 2, 1) := by decide +kernel
theorem dX5_toneSet_46 : decode cX5_toneSet 46 = .ok (.iload 4, 2) := by decide +kernel
theorem dX5_toneSet_48 : decode cX5_toneSet 48 = .ok (.imul, 1) := by decide +kernel
theorem dX5_toneSet_49 : decode cX5_toneSet 49 = .ok (.iconst 1, 1) := by decide +kernel
theorem dX5_toneSet_50 : decode cX5_toneSet 50 = .ok (.iadd, 1) := by decide +kernel
theorem dX5_toneSet_51 : decode cX5_toneSet 51 = .ok (.iaload, 1) := by decide +kernel
theorem dX5_toneSet_52 : decode cX5_toneSet 52 = .ok (.if_icmp .ne 7, 3) := by decide +kernel
theorem dX5_toneSet_55 : decode cX5_toneSet 55 = .ok (.iconst 1, 1) := by decide +kernel
theorem dX5_toneSet_56 : decode cX5_toneSet 56 = .ok (.goto 4, 3) := by decide +kernel
theorem dX5_toneSet_59 : decode cX5_toneSet 59 = .ok (.iconst 0, 1) := by decide +kernel
theorem dX5_toneSet_60 : decode cX5_toneSet 60 = .ok (.istore_n 3, 1) := by decide +kernel
theorem dX5_toneSet_61 : decode cX5_toneSet 61 = .ok (.iinc 4 1, 3) := by decide +kernel
theorem dX5_toneSet_64 : decode cX5_toneSet 64 = .ok (.goto (-49), 3) := by decide +kernel
theorem dX5_toneSet_67 : decode cX5_toneSet 67 = .ok (.iload_n 1, 1) := by decide +kernel
theorem dX5_toneSet_68 : decode cX5_toneSet 68 = .ok (.iload_n 3, 1) := by decide +kernel
theorem dX5_toneSet_69 : decode cX5_toneSet 69 = .ok (.ifCond .eq 9, 3) := by decide +kernel
theorem dX5_toneSet_72 : decode cX5_toneSet 72 = .ok (.iconst 1, 1) := by decide +kernel
theorem dX5_toneSet_73 : decode cX5_toneSet 73 = .ok (.iload_n 2, 1) := by decide +kernel
theorem dX5_toneSet_74 : decode cX5_toneSet 74 = .ok (.ishl, 1) := by decide +kernel
theorem dX5_toneSet_75 : decode cX5_toneSet 75 = .ok (.goto 4, 3) := by decide +kernel
theorem dX5_toneSet_78 : decode cX5_toneSet 78 = .ok (.iconst 0, 1) := by decide +kernel
theorem dX5_toneSet_79 : decode cX5_toneSet 79 = .ok (.ior, 1) := by decide +kernel
theorem dX5_toneSet_80 : decode cX5_toneSet 80 = .ok (.istore_n 1, 1) := by decide +kernel
theorem dX5_toneSet_81 : decode cX5_toneSet 81 = .ok (.iinc 2 1, 3) := by decide +kernel
theorem dX5_toneSet_84 : decode cX5_toneSet 84 = .ok (.goto (-80), 3) := by decide +kernel
theorem dX5_toneSet_87 : decode cX5_toneSet 87 = .ok (.iload_n 1, 1) := by decide +kernel
theorem dX5_toneSet_88 : decode cX5_toneSet 88 = .ok (.ireturn, 1) := by decide +kernel
theorem dX5_tones_0 : decode cX5_tones 0 = .ok (.aload_n 0, 1) := by decide +kernel
theorem dX5_tones_1 : decode cX5_tones 1 = .ok (.invokevirtual 120, 3) := by decide +kernel
theorem dX5_tones_4 : decode cX5_tones 4 = .ok (.ireturn, 1) := by decide +kernel
theorem dX5_next_0 : decode cX5_next 0 = .ok (.iload_n 1, 1) := by decide +kernel
theorem dX5_next_1 : decode cX5_next 1 = .ok (.iconst 0, 1) := by decide +kernel
theorem dX5_next_2 : decode cX5_next 2 = .ok (.iconst 1, 1) := by decide +kernel
theorem dX5_next_3 : decode cX5_next 3 = .ok (.invokestatic 38, 3) := by decide +kernel
theorem dX5_next_6 : decode cX5_next 6 = .ok (.ifCond .ne 6, 3) := by decide +kernel
theorem dX5_next_9 : decode cX5_next 9 = .ok (.bipush (-2), 2) := by decide +kernel
theorem dX5_next_11 : decode cX5_next 11 = .ok (.ireturn, 1) := by decide +kernel
theorem dX5_next_12 : decode cX5_next 12 = .ok (.aload_n 0, 1) := by decide +kernel
theorem dX5_next_13 : decode cX5_next 13 = .ok (.invokevirtual 120, 3) := by decide +kernel
theorem dX5_next_16 : decode cX5_next 16 = .ok (.istore_n 2, 1) := by decide +kernel
theorem dX5_next_17 : decode cX5_next 17 = .ok (.bipush (-6), 2) := by decide +kernel
theorem dX5_next_19 : decode cX5_next 19 = .ok (.istore_n 3, 1) := by decide +kernel
theorem dX5_next_20 : decode cX5_next 20 = .ok (.ldc 116, 2) := by decide +kernel
theorem dX5_next_22 : decode cX5_next 22 = .ok (.istore 4, 2) := by decide +kernel
theorem dX5_next_24 : decode cX5_next 24 = .ok (.iconst 0, 1) := by decide +kernel
theorem dX5_next_25 : decode cX5_next 25 = .ok (.istore 5, 2) := by decide +kernel
theorem dX5_next_27 : decode cX5_next 27 = .ok (.iload 5, 2) := by decide +kernel
theorem dX5_next_29 : decode cX5_next 29 = .ok (.bipush 10, 2) := by decide +kernel
theorem dX5_next_31 : decode cX5_next 31 = .ok (.if_icmp .ge 151, 3) := by decide +kernel
theorem dX5_next_34 : decode cX5_next 34 = .ok (.iload_n 2, 1) := by decide +kernel
theorem dX5_next_35 : decode cX5_next 35 = .ok (.ifCond .eq 147, 3) := by decide +kernel
theorem dX5_next_38 : decode cX5_next 38 = .ok (.iconst 0, 1) := by decide +kernel
theorem dX5_next_39 : decode cX5_next 39 = .ok (.istore 6, 2) := by decide +kernel
theorem dX5_next_41 : decode cX5_next 41 = .ok (.iconst 0, 1) := by decide +kernel
theorem dX5_next_42 : decode cX5_next 42 = .ok (.istore 7, 2) := by decide +kernel
theorem dX5_next_44 : decode cX5_next 44 = .ok (.iload 7, 2) := by decide +kernel
theorem dX5_next_46 : decode cX5_next 46 = .ok (.iconst 3, 1) := by decide +kernel
theorem dX5_next_47 : decode cX5_next 47 = .ok (.if_icmp .ge 17, 3) := by decide +kernel
theorem dX5_next_50 : decode cX5_next 50 = .ok (.aload_n 0, 1) := by decide +kernel
theorem dX5_next_51 : decode cX5_next 51 = .ok (.getfield 28, 3) := by decide +kernel
theorem dX5_next_54 : decode cX5_next 54 = .ok (.iload 7, 2) := by decide +kernel
theorem dX5_next_56 : decode cX5_next 56 = .ok (.iconst 0, 1) := by decide +kernel
theorem dX5_next_57 : decode cX5_next 57 = .ok (.iastore, 1) := by decide +kernel
theorem dX5_next_58 : decode cX5_next 58 = .ok (.iinc 7 1, 3) := by decide +kernel
theorem dX5_next_61 : decode cX5_next 61 = .ok (.goto (-17), 3) := by decide +kernel
theorem dX5_next_64 : decode cX5_next 64 = .ok (.iconst 0, 1) := by decide +kernel
theorem dX5_next_65 : decode cX5_next 65 = .ok (.istore 7, 2) := by decide +kernel
theorem dX5_next_67 : decode cX5_next 67 = .ok (.iload 7, 2) := by decide +kernel
theorem dX5_next_69 : decode cX5_next 69 = .ok (.bipush 10, 2) := by decide +kernel
theorem dX5_next_71 : decode cX5_next 71 = .ok (.if_icmp .ge 34, 3) := by decide +kernel
theorem dX5_next_74 : decode cX5_next 74 = .ok (.iload_n 2, 1) := by decide +kernel
theorem dX5_next_75 : decode cX5_next 75 = .ok (.iload 7, 2) := by decide +kernel
theorem dX5_next_77 : decode cX5_next 77 = .ok (.invokestatic 61, 3) := by decide +kernel
theorem dX5_next_80 : decode cX5_next 80 = .ok (.ifCond .eq 19, 3) := by decide +kernel
theorem dX5_next_83 : decode cX5_next 83 = .ok (.aload_n 0, 1) := by decide +kernel
theorem dX5_next_84 : decode cX5_next 84 = .ok (.getfield 28, 3) := by decide +kernel
theorem dX5_next_87 : decode cX5_next 87 = .ok (.iload 5, 2) := by decide +kernel
theorem dX5_next_89 : decode cX5_next 89 = .ok (.iload 7, 2) := by decide +kernel
theorem dX5_next_91 : decode cX5_next 91 = .ok (.invokestatic 65, 3) := by decide +kernel
theorem dX5_next_94 : decode cX5_next 94 = .ok (.dup2, 1) := by decide +kernel
theorem dX5_next_95 : decode cX5_next 95 = .ok (.iaload, 1) := by decide +kernel
theorem dX5_next_96 : decode cX5_next 96 = .ok (.iconst 1, 1) := by decide +kernel
theorem dX5_next_97 : decode cX5_next 97 = .ok (.iadd, 1) := by decide +kernel
theorem dX5_next_98 : decode cX5_next 98 = .ok (.iastore, 1) := by decide +kernel
theorem dX5_next_99 : decode cX5_next 99 = .ok (.iinc 7 1, 3) := by decide +kernel
theorem dX5_next_102 : decode cX5_next 102 = .ok (.goto (-35), 3) := by decide +kernel
theorem dX5_next_105 : decode cX5_next 105 = .ok (.iconst 0, 1) := by decide +kernel
theorem dX5_next_106 : decode cX5_next 106 = .ok (.istore 7, 2) := by decide +kernel
theorem dX5_next_108 : decode cX5_next 108 = .ok (.iload 7, 2) := by decide +kernel
theorem dX5_next_110 : decode cX5_next 110 = .ok (.iconst 3, 1) := by decide +kernel
theorem dX5_next_111 : decode cX5_next 111 = .ok (.if_icmp .ge 35, 3) := by decide +kernel
theorem dX5_next_114 : decode cX5_next 114 = .ok (.aload_n 0, 1) := by decide +kernel
theorem dX5_next_115 : decode cX5_next 115 = .ok (.getfield 28, 3) := by decide +kernel
theorem dX5_next_118 : decode cX5_next 118 = .ok (.iload 7, 2) := by decide +kernel
theorem dX5_next_120 : decode cX5_next 120 = .ok (.iaload, 1) := by decide +kernel
theorem dX5_next_121 : decode cX5_next 121 = .ok (.iload 6, 2) := by decide +kernel
theorem dX5_next_123 : decode cX5_next 123 = .ok (.if_icmp .le 13, 3) := by decide +kernel
theorem dX5_next_126 : decode cX5_next 126 = .ok (.aload_n 0, 1) := by decide +kernel
theorem dX5_next_127 : decode cX5_next 127 = .ok (.getfield 28, 3) := by decide +kernel
theorem dX5_next_130 : decode cX5_next 130 = .ok (.iload 7, 2) := by decide +kernel
theorem dX5_next_132 : decode cX5_next 132 = .ok (.iaload, 1) := by decide +kernel
theorem dX5_next_133 : decode cX5_next 133 = .ok (.goto 5, 3) := by decide +kernel
theorem dX5_next_136 : decode cX5_next 136 = .ok (.iload 6, 2) := by decide +kernel
theorem dX5_next_138 : decode cX5_next 138 = .ok (.istore 6, 2) := by decide +kernel
theorem dX5_next_140 : decode cX5_next 140 = .ok (.iinc 7 1, 3) := by decide +kernel
theorem dX5_next_143 : decode cX5_next 143 = .ok (.goto (-35), 3) := by decide +kernel
theorem dX5_next_146 : decode cX5_next 146 = .ok (.iload 6, 2) := by decide +kernel
theorem dX5_next_148 : decode cX5_next 148 = .ok (.iload 4, 2) := by decide +kernel
theorem dX5_next_150 : decode cX5_next 150 = .ok (.if_icmp .ge 8, 3) := by decide +kernel
theorem dX5_next_153 : decode cX5_next 153 = .ok (.iload 5, 2) := by decide +kernel
theorem dX5_next_155 : decode cX5_next 155 = .ok (.goto 4, 3) := by decide +kernel
theorem dX5_next_158 : decode cX5_next 158 = .ok (.iload_n 3, 1) := by decide +kernel
theorem dX5_next_159 : decode cX5_next 159 = .ok (.istore_n 3, 1) := by decide +kernel
theorem dX5_next_160 : decode cX5_next 160 = .ok (.iload 6, 2) := by decide +kernel
theorem dX5_next_162 : decode cX5_next 162 = .ok (.iload 4, 2) := by decide +kernel
theorem dX5_next_164 : decode cX5_next 164 = .ok (.if_icmp .ge 8, 3) := by decide +kernel
theorem dX5_next_167 : decode cX5_next 167 = .ok (.iload 6, 2) := by decide +kernel
theorem dX5_next_169 : decode cX5_next 169 = .ok (.goto 5, 3) := by decide +kernel
theorem dX5_next_172 : decode cX5_next 172 = .ok (.iload 4, 2) := by decide +kernel
theorem dX5_next_174 : decode cX5_next 174 = .ok (.istore 4, 2) := by decide +kernel
theorem dX5_next_176 : decode cX5_next 176 = .ok (.iinc 5 1, 3) := by decide +kernel
theorem dX5_next_179 : decode cX5_next 179 = .ok (.goto (-152), 3) := by decide +kernel
theorem dX5_next_182 : decode cX5_next 182 = .ok (.iload_n 3, 1) := by decide +kernel
theorem dX5_next_183 : decode cX5_next 183 = .ok (.ifCond .lt 7, 3) := by decide +kernel
theorem dX5_next_186 : decode cX5_next 186 = .ok (.iload_n 1, 1) := by decide +kernel
theorem dX5_next_187 : decode cX5_next 187 = .ok (.ifCond .ne 7, 3) := by decide +kernel
theorem dX5_next_190 : decode cX5_next 190 = .ok (.iload_n 3, 1) := by decide +kernel
theorem dX5_next_191 : decode cX5_next 191 = .ok (.goto 5, 3) := by decide +kernel
theorem dX5_next_194 : decode cX5_next 194 = .ok (.iload 4, 2) := by decide +kernel
theorem dX5_next_196 : decode cX5_next 196 = .ok (.ireturn, 1) := by decide +kernel
theorem dX5_speaks_0 : decode cX5_speaks 0 = .ok (.iload_n 1, 1) := by decide +kernel
theorem dX5_speaks_1 : decode cX5_speaks 1 = .ok (.istore_n 3, 1) := by decide +kernel
theorem dX5_speaks_2 : decode cX5_speaks 2 = .ok (.iconst 0, 1) := by decide +kernel
theorem dX5_speaks_3 : decode cX5_speaks 3 = .ok (.istore 4, 2) := by decide +kernel
theorem dX5_speaks_5 : decode cX5_speaks 5 = .ok (.iload 4, 2) := by decide +kernel
theorem dX5_speaks_7 : decode cX5_speaks 7 = .ok (.bipush 8, 2) := by decide +kernel
theorem dX5_speaks_9 : decode cX5_speaks 9 = .ok (.if_icmp .ge 76, 3) := by decide +kernel
theorem dX5_speaks_12 : decode cX5_speaks 12 = .ok (.iload_n 3, 1) := by decide +kernel
theorem dX5_speaks_13 : decode cX5_speaks 13 = .ok (.istore 5, 2) := by decide +kernel
theorem dX5_speaks_15 : decode cX5_speaks 15 = .ok (.iconst 0, 1) := by decide +kernel
theorem dX5_speaks_16 : decode cX5_speaks 16 = .ok (.istore 6, 2) := by decide +kernel
theorem dX5_speaks_18 : decode cX5_speaks 18 = .ok (.iload 6, 2) := by decide +kernel
theorem dX5_speaks_20 : decode cX5_speaks 20 = .ok (.bipush 8, 2) := by decide +kernel
theorem dX5_speaks_22 : decode cX5_speaks 22 = .ok (.if_icmp .ge 54, 3) := by decide +kernel
theorem dX5_speaks_25 : decode cX5_speaks 25 = .ok (.iload 5, 2) := by decide +kernel
theorem dX5_speaks_27 : decode cX5_speaks 27 = .ok (.iload_n 2, 1) := by decide +kernel
theorem dX5_speaks_28 : decode cX5_speaks 28 = .ok (.iload 6, 2) := by decide +kernel
theorem dX5_speaks_30 : decode cX5_speaks 30 = .ok (.invokestatic 61, 3) := by decide +kernel
theorem dX5_speaks_33 : decode cX5_speaks 33 = .ok (.ifCond .ne 33, 3) := by decide +kernel
theorem dX5_speaks_36 : decode cX5_speaks 36 = .ok (.iload_n 3, 1) := by decide +kernel
theorem dX5_speaks_37 : decode cX5_speaks 37 = .ok (.iload 6, 2) := by decide +kernel
theorem dX5_speaks_39 : decode cX5_speaks 39 = .ok (.invokestatic 61, 3) := by decide +kernel
theorem dX5_speaks_42 : decode cX5_speaks 42 = .ok (.ifCond .ne 24, 3) := by decide +kernel
theorem dX5_speaks_45 : decode cX5_speaks 45 = .ok (.iload_n 3, 1) := by decide +kernel
theorem dX5_speaks_46 : decode cX5_speaks 46 = .ok (.invokestatic 50, 3) := by decide +kernel
theorem dX5_speaks_49 : decode cX5_speaks 49 = .ok (.aload_n 0, 1) := by decide +kernel
theorem dX5_speaks_50 : decode cX5_speaks 50 = .ok (.getfield 19, 3) := by decide +kernel
theorem dX5_speaks_53 : decode cX5_speaks 53 = .ok (.iload 6, 2) := by decide +kernel
theorem dX5_speaks_55 : decode cX5_speaks 55 = .ok (.iaload, 1) := by decide +kernel
theorem dX5_speaks_56 : decode cX5_speaks 56 = .ok (.if_icmp .lt 10, 3) := by decide +kernel
theorem dX5_speaks_59 : decode cX5_speaks 59 = .ok (.iconst 1, 1) := by decide +kernel
theorem dX5_speaks_60 : decode cX5_speaks 60 = .ok (.iload 6, 2) := by decide +kernel
theorem dX5_speaks_62 : decode cX5_speaks 62 = .ok (.ishl, 1) := by decide +kernel
theorem dX5_speaks_63 : decode cX5_speaks 63 = .ok (.goto 4, 3) := by decide +kernel
theorem dX5_speaks_66 : decode cX5_speaks 66 = .ok (.iconst 0, 1) := by decide +kernel
theorem dX5_speaks_67 : decode cX5_speaks 67 = .ok (.ior, 1) := by decide +kernel
theorem dX5_speaks_68 : decode cX5_speaks 68 = .ok (.istore 5, 2) := by decide +kernel
theorem dX5_speaks_70 : decode cX5_speaks 70 = .ok (.iinc 6 1, 3) := by decide +kernel
theorem dX5_speaks_73 : decode cX5_speaks 73 = .ok (.goto (-55), 3) := by decide +kernel
theorem dX5_speaks_76 : decode cX5_speaks 76 = .ok (.iload 5, 2) := by decide +kernel
theorem dX5_speaks_78 : decode cX5_speaks 78 = .ok (.istore_n 3, 1) := by decide +kernel
theorem dX5_speaks_79 : decode cX5_speaks 79 = .ok (.iinc 4 1, 3) := by decide +kernel
theorem dX5_speaks_82 : decode cX5_speaks 82 = .ok (.goto (-77), 3) := by decide +kernel
theorem dX5_speaks_85 : decode cX5_speaks 85 = .ok (.iload_n 3, 1) := by decide +kernel
theorem dX5_speaks_86 : decode cX5_speaks 86 = .ok (.ireturn, 1) := by decide +kernel
theorem dX5_chain_0 : decode cX5_chain 0 = .ok (.iload_n 1, 1) := by decide +kernel
theorem dX5_chain_1 : decode cX5_chain 1 = .ok (.iconst 0, 1) := by decide +kernel
theorem dX5_chain_2 : decode cX5_chain 2 = .ok (.sipush 255, 3) := by decide +kernel
theorem dX5_chain_5 : decode cX5_chain 5 = .ok (.invokestatic 38, 3) := by decide +kernel
theorem dX5_chain_8 : decode cX5_chain 8 = .ok (.ifCond .eq 12, 3) := by decide +kernel
theorem dX5_chain_11 : decode cX5_chain 11 = .ok (.aload_n 0, 1) := by decide +kernel
theorem dX5_chain_12 : decode cX5_chain 12 = .ok (.iload_n 1, 1) := by decide +kernel
theorem dX5_chain_13 : decode cX5_chain 13 = .ok (.iconst 0, 1) := by decide +kernel
theorem dX5_chain_14 : decode cX5_chain 14 = .ok (.invokevirtual 123, 3) := by decide +kernel
theorem dX5_chain_17 : decode cX5_chain 17 = .ok (.goto 4, 3) := by decide +kernel
theorem dX5_chain_20 : decode cX5_chain 20 = .ok (.iconst (-1), 1) := by decide +kernel
theorem dX5_chain_21 : decode cX5_chain 21 = .ok (.ireturn, 1) := by decide +kernel
theorem dX5_quiet_0 : decode cX5_quiet 0 = .ok (.iload_n 1, 1) := by decide +kernel
theorem dX5_quiet_1 : decode cX5_quiet 1 = .ok (.iconst 0, 1) := by decide +kernel
theorem dX5_quiet_2 : decode cX5_quiet 2 = .ok (.sipush 255, 3) := by decide +kernel
theorem dX5_quiet_5 : decode cX5_quiet 5 = .ok (.invokestatic 38, 3) := by decide +kernel
theorem dX5_quiet_8 : decode cX5_quiet 8 = .ok (.ifCond .ne 5, 3) := by decide +kernel
theorem dX5_quiet_11 : decode cX5_quiet 11 = .ok (.iconst (-1), 1) := by decide +kernel
theorem dX5_quiet_12 : decode cX5_quiet 12 = .ok (.ireturn, 1) := by decide +kernel
theorem dX5_quiet_13 : decode cX5_quiet 13 = .ok (.iload_n 2, 1) := by decide +kernel
theorem dX5_quiet_14 : decode cX5_quiet 14 = .ok (.iconst 0, 1) := by decide +kernel
theorem dX5_quiet_15 : decode cX5_quiet 15 = .ok (.bipush 8, 2) := by decide +kernel
theorem dX5_quiet_17 : decode cX5_quiet 17 = .ok (.invokestatic 38, 3) := by decide +kernel
theorem dX5_quiet_20 : decode cX5_quiet 20 = .ok (.ifCond .eq 12, 3) := by decide +kernel
theorem dX5_quiet_23 : decode cX5_quiet 23 = .ok (.iload_n 3, 1) := by decide +kernel
theorem dX5_quiet_24 : decode cX5_quiet 24 = .ok (.iconst 0, 1) := by decide +kernel
theorem dX5_quiet_25 : decode cX5_quiet 25 = .ok (.iconst 1, 1) := by decide +kernel
theorem dX5_quiet_26 : decode cX5_quiet 26 = .ok (.invokestatic 38, 3) := by decide +kernel
theorem dX5_quiet_29 : decode cX5_quiet 29 = .ok (.ifCond .ne 6, 3) := by decide +kernel
theorem dX5_quiet_32 : decode cX5_quiet 32 = .ok (.bipush (-2), 2) := by decide +kernel
theorem dX5_quiet_34 : decode cX5_quiet 34 = .ok (.ireturn, 1) := by decide +kernel
theorem dX5_quiet_35 : decode cX5_quiet 35 = .ok (.bipush (-6), 2) := by decide +kernel
theorem dX5_quiet_37 : decode cX5_quiet 37 = .ok (.istore 4, 2) := by decide +kernel
theorem dX5_quiet_39 : decode cX5_quiet 39 = .ok (.iconst 0, 1) := by decide +kernel
theorem dX5_quiet_40 : decode cX5_quiet 40 = .ok (.istore 5, 2) := by decide +kernel
theorem dX5_quiet_42 : decode cX5_quiet 42 = .ok (.iload 5, 2) := by decide +kernel
theorem dX5_quiet_44 : decode cX5_quiet 44 = .ok (.sipush 256, 3) := by decide +kernel
theorem dX5_quiet_47 : decode cX5_quiet 47 = .ok (.if_icmp .ge 69, 3) := by decide +kernel
theorem dX5_quiet_50 : decode cX5_quiet 50 = .ok (.iload 5, 2) := by decide +kernel
theorem dX5_quiet_52 : decode cX5_quiet 52 = .ok (.iload_n 1, 1) := by decide +kernel
theorem dX5_quiet_53 : decode cX5_quiet 53 = .ok (.iand, 1) := by decide +kernel
theorem dX5_quiet_54 : decode cX5_quiet 54 = .ok (.ifCond .ne 25, 3) := by decide +kernel
theorem dX5_quiet_57 : decode cX5_quiet 57 = .ok (.iload 4, 2) := by decide +kernel
theorem dX5_quiet_59 : decode cX5_quiet 59 = .ok (.ifCond .lt 16, 3) := by decide +kernel
theorem dX5_quiet_62 : decode cX5_quiet 62 = .ok (.iload 5, 2) := by decide +kernel
theorem dX5_quiet_64 : decode cX5_quiet 64 = .ok (.invokestatic 50, 3) := by decide +kernel
theorem dX5_quiet_67 : decode cX5_quiet 67 = .ok (.iload 4, 2) := by decide +kernel
theorem dX5_quiet_69 : decode cX5_quiet 69 = .ok (.invokestatic 50, 3) := by decide +kernel
theorem dX5_quiet_72 : decode cX5_quiet 72 = .ok (.if_icmp .ge 7, 3) := by decide +kernel
theorem dX5_quiet_75 : decode cX5_quiet 75 = .ok (.iconst 1, 1) := by decide +kernel
theorem dX5_quiet_76 : decode cX5_quiet 76 = .ok (.goto 4, 3) := by decide +kernel
theorem dX5_quiet_79 : decode cX5_quiet 79 = .ok (.iconst 0, 1) := by decide +kernel
theorem dX5_quiet_80 : decode cX5_quiet 80 = .ok (.istore 6, 2) := by decide +kernel
theorem dX5_quiet_82 : decode cX5_quiet 82 = .ok (.iload 6, 2) := by decide +kernel
theorem dX5_quiet_84 : decode cX5_quiet 84 = .ok (.ifCond .eq 22, 3) := by decide +kernel
theorem dX5_quiet_87 : decode cX5_quiet 87 = .ok (.aload_n 0, 1) := by decide +kernel
theorem dX5_quiet_88 : decode cX5_quiet 88 = .ok (.iload_n 1, 1) := by decide +kernel
theorem dX5_quiet_89 : decode cX5_quiet 89 = .ok (.iload 5, 2) := by decide +kernel
theorem dX5_quiet_91 : decode cX5_quiet 91 = .ok (.invokevirtual 123, 3) := by decide +kernel
theorem dX5_quiet_94 : decode cX5_quiet 94 = .ok (.invokestatic 50, 3) := by decide +kernel
theorem dX5_quiet_97 : decode cX5_quiet 97 = .ok (.iload_n 2, 1) := by decide +kernel
theorem dX5_quiet_98 : decode cX5_quiet 98 = .ok (.if_icmp .gt 8, 3) := by decide +kernel
theorem dX5_quiet_101 : decode cX5_quiet 101 = .ok (.iload 5, 2) := by decide +kernel
theorem dX5_quiet_103 : decode cX5_quiet 103 = .ok (.goto 5, 3) := by decide +kernel
theorem dX5_quiet_106 : decode cX5_quiet 106 = .ok (.iload 4, 2) := by decide +kernel
theorem dX5_quiet_108 : decode cX5_quiet 108 = .ok (.istore 4, 2) := by decide +kernel
theorem dX5_quiet_110 : decode cX5_quiet 110 = .ok (.iinc 5 1, 3) := by decide +kernel
theorem dX5_quiet_113 : decode cX5_quiet 113 = .ok (.goto (-71), 3) := by decide +kernel
theorem dX5_quiet_116 : decode cX5_quiet 116 = .ok (.iload 4, 2) := by decide +kernel
theorem dX5_quiet_118 : decode cX5_quiet 118 = .ok (.ifCond .lt 8, 3) := by decide +kernel
theorem dX5_quiet_121 : decode cX5_quiet 121 = .ok (.iload_n 3, 1) := by decide +kernel
theorem dX5_quiet_122 : decode cX5_quiet 122 = .ok (.iconst 1, 1) := by decide +kernel
theorem dX5_quiet_123 : decode cX5_quiet 123 = .ok (.if_icmp .ne 8, 3) := by decide +kernel
theorem dX5_quiet_126 : decode cX5_quiet 126 = .ok (.iload 4, 2) := by decide +kernel
theorem dX5_quiet_128 : decode cX5_quiet 128 = .ok (.goto 8, 3) := by decide +kernel
theorem dX5_quiet_131 : decode cX5_quiet 131 = .ok (.iload 4, 2) := by decide +kernel
theorem dX5_quiet_133 : decode cX5_quiet 133 = .ok (.invokestatic 50, 3) := by decide +kernel
theorem dX5_quiet_136 : decode cX5_quiet 136 = .ok (.ireturn, 1) := by decide +kernel
theorem dX5_water_0 : decode cX5_water 0 = .ok (.iload_n 1, 1) := by decide +kernel
theorem dX5_water_1 : decode cX5_water 1 = .ok (.iconst 0, 1) := by decide +kernel
theorem dX5_water_2 : decode cX5_water 2 = .ok (.bipush 9, 2) := by decide +kernel
theorem dX5_water_4 : decode cX5_water 4 = .ok (.invokestatic 38, 3) := by decide +kernel
theorem dX5_water_7 : decode cX5_water 7 = .ok (.ifCond .eq 32, 3) := by decide +kernel
theorem dX5_water_10 : decode cX5_water 10 = .ok (.iload_n 2, 1) := by decide +kernel
theorem dX5_water_11 : decode cX5_water 11 = .ok (.iconst 0, 1) := by decide +kernel
theorem dX5_water_12 : decode cX5_water 12 = .ok (.bipush 10, 2) := by decide +kernel
theorem dX5_water_14 : decode cX5_water 14 = .ok (.invokestatic 38, 3) := by decide +kernel
theorem dX5_water_17 : decode cX5_water 17 = .ok (.ifCond .eq 22, 3) := by decide +kernel
theorem dX5_water_20 : decode cX5_water 20 = .ok (.iload_n 3, 1) := by decide +kernel
theorem dX5_water_21 : decode cX5_water 21 = .ok (.iconst 0, 1) := by decide +kernel
theorem dX5_water_22 : decode cX5_water 22 = .ok (.iconst 1, 1) := by decide +kernel
theorem dX5_water_23 : decode cX5_water 23 = .ok (.invokestatic 38, 3) := by decide +kernel
theorem dX5_water_26 : decode cX5_water 26 = .ok (.ifCond .eq 13, 3) := by decide +kernel
theorem dX5_water_29 : decode cX5_water 29 = .ok (.iload 4, 2) := by decide +kernel
theorem dX5_water_31 : decode cX5_water 31 = .ok (.iconst 0, 1) := by decide +kernel
theorem dX5_water_32 : decode cX5_water 32 = .ok (.iconst 1, 1) := by decide +kernel
theorem dX5_water_33 : decode cX5_water 33 = .ok (.invokestatic 38, 3) := by decide +kernel
theorem dX5_water_36 : decode cX5_water 36 = .ok (.ifCond .ne 7, 3) := by decide +kernel
theorem dX5_water_39 : decode cX5_water 39 = .ok (.ldc2_w 126, 3) := by decide +kernel
theorem dX5_water_42 : decode cX5_water 42 = .ok (.lreturn, 1) := by decide +kernel
theorem dX5_water_43 : decode cX5_water 43 = .ok (.lconst 0, 1) := by decide +kernel
theorem dX5_water_44 : decode cX5_water 44 = .ok (.lstore 5, 2) := by decide +kernel
theorem dX5_water_46 : decode cX5_water 46 = .ok (.lconst 1, 1) := by decide +kernel
theorem dX5_water_47 : decode cX5_water 47 = .ok (.lstore 7, 2) := by decide +kernel
theorem dX5_water_49 : decode cX5_water 49 = .ok (.iconst 1, 1) := by decide +kernel
theorem dX5_water_50 : decode cX5_water 50 = .ok (.istore 9, 2) := by decide +kernel
theorem dX5_water_52 : decode cX5_water 52 = .ok (.iconst 1, 1) := by decide +kernel
theorem dX5_water_53 : decode cX5_water 53 = .ok (.istore 10, 2) := by decide +kernel
theorem dX5_water_55 : decode cX5_water 55 = .ok (.iload 10, 2) := by decide +kernel
theorem dX5_water_57 : decode cX5_water 57 = .ok (.iload_n 1, 1) := by decide +kernel
theorem dX5_water_58 : decode cX5_water 58 = .ok (.if_icmp .gt 79, 3) := by decide +kernel
theorem dX5_water_61 : decode cX5_water 61 = .ok (.ldc2_w 128, 3) := by decide +kernel
theorem dX5_water_64 : decode cX5_water 64 = .ok (.lload 7, 2) := by decide +kernel
theorem dX5_water_66 : decode cX5_water 66 = .ok (.lmul, 1) := by decide +kernel
theorem dX5_water_67 : decode cX5_water 67 = .ok (.iload_n 2, 1) := by decide +kernel
theorem dX5_water_68 : decode cX5_water 68 = .ok (.i2l, 1) := by decide +kernel
theorem dX5_water_69 : decode cX5_water 69 = .ok (.lmul, 1) := by decide +kernel
theorem dX5_water_70 : decode cX5_water 70 = .ok (.ldc2_w 130, 3) := by decide +kernel
theorem dX5_water_73 : decode cX5_water 73 = .ok (.iload_n 2, 1) := by decide +kernel
theorem dX5_water_74 : decode cX5_water 74 = .ok (.i2l, 1) := by decide +kernel
theorem dX5_water_75 : decode cX5_water 75 = .ok (.lsub, 1) := by decide +kernel
theorem dX5_water_76 : decode cX5_water 76 = .ok (.lload 5, 2) := by decide +kernel
theorem dX5_water_78 : decode cX5_water 78 = .ok (.lmul, 1) := by decide +kernel
theorem dX5_water_79 : decode cX5_water 79 = .ok (.ladd, 1) := by decide +kernel
theorem dX5_water_80 : decode cX5_water 80 = .ok (.lstore 11, 2) := by decide +kernel
theorem dX5_water_82 : decode cX5_water 82 = .ok (.lload 7, 2) := by decide +kernel
theorem dX5_water_84 : decode cX5_water 84 = .ok (.ldc2_w 130, 3) := by decide +kernel
theorem dX5_water_87 : decode cX5_water 87 = .ok (.lmul, 1) := by decide +kernel
theorem dX5_water_88 : decode cX5_water 88 = .ok (.lstore 7, 2) := by decide +kernel
theorem dX5_water_90 : decode cX5_water 90 = .ok (.ldc2_w 130, 3) := by decide +kernel
theorem dX5_water_93 : decode cX5_water 93 = .ok (.iload 10, 2) := by decide +kernel
theorem dX5_water_95 : decode cX5_water 95 = .ok (.i2l, 1) := by decide +kernel
theorem dX5_water_96 : decode cX5_water 96 = .ok (.lmul, 1) := by decide +kernel
theorem dX5_water_97 : decode cX5_water 97 = .ok (.lload 7, 2) := by decide +kernel
theorem dX5_water_99 : decode cX5_water 99 = .ok (.lmul, 1) := by decide +kernel
theorem dX5_water_100 : decode cX5_water 100 = .ok (.lstore 13, 2) := by decide +kernel
theorem dX5_water_102 : decode cX5_water 102 = .ok (.lload 13, 2) := by decide +kernel
theorem dX5_water_104 : decode cX5_water 104 = .ok (.lload 11, 2) := by decide +kernel
theorem dX5_water_106 : decode cX5_water 106 = .ok (.lcmp, 1) := by decide +kernel
theorem dX5_water_107 : decode cX5_water 107 = .ok (.ifCond .lt 7, 3) := by decide +kernel
theorem dX5_water_110 : decode cX5_water 110 = .ok (.iconst 1, 1) := by decide +kernel
theorem dX5_water_111 : decode cX5_water 111 = .ok (.goto 4, 3) := by decide +kernel
theorem dX5_water_114 : decode cX5_water 114 = .ok (.iconst 0, 1) := by decide +kernel
theorem dX5_water_115 : decode cX5_water 115 = .ok (.istore 9, 2) := by decide +kernel
theorem dX5_water_117 : decode cX5_water 117 = .ok (.iload 9, 2) := by decide +kernel
theorem dX5_water_119 : decode cX5_water 119 = .ok (.ifCond .eq 8, 3) := by decide +kernel
theorem dX5_water_122 : decode cX5_water 122 = .ok (.lload 13, 2) := by decide +kernel
theorem dX5_water_124 : decode cX5_water 124 = .ok (.goto 5, 3) := by decide +kernel
theorem dX5_water_127 : decode cX5_water 127 = .ok (.lload 11, 2) := by decide +kernel
theorem dX5_water_129 : decode cX5_water 129 = .ok (.lstore 5, 2) := by decide +kernel
theorem dX5_water_131 : decode cX5_water 131 = .ok (.iinc 10 1, 3) := by decide +kernel
theorem dX5_water_134 : decode cX5_water 134 = .ok (.goto (-79), 3) := by decide +kernel
theorem dX5_water_137 : decode cX5_water 137 = .ok (.iload_n 3, 1) := by decide +kernel
theorem dX5_water_138 : decode cX5_water 138 = .ok (.iconst 1, 1) := by decide +kernel
theorem dX5_water_139 : decode cX5_water 139 = .ok (.if_icmp .ne 14, 3) := by decide +kernel
theorem dX5_water_142 : decode cX5_water 142 = .ok (.iload 9, 2) := by decide +kernel
theorem dX5_water_144 : decode cX5_water 144 = .ok (.ifCond .eq 7, 3) := by decide +kernel
theorem dX5_water_147 : decode cX5_water 147 = .ok (.lconst 1, 1) := by decide +kernel
theorem dX5_water_148 : decode cX5_water 148 = .ok (.goto 4, 3) := by decide +kernel
theorem dX5_water_151 : decode cX5_water 151 = .ok (.lconst 0, 1) := by decide +kernel
theorem dX5_water_152 : decode cX5_water 152 = .ok (.lreturn, 1) := by decide +kernel
theorem dX5_water_153 : decode cX5_water 153 = .ok (.lload 5, 2) := by decide +kernel
theorem dX5_water_155 : decode cX5_water 155 = .ok (.lstore 10, 2) := by decide +kernel
theorem dX5_water_157 : decode cX5_water 157 = .ok (.lload 7, 2) := by decide +kernel
theorem dX5_water_159 : decode cX5_water 159 = .ok (.lstore 12, 2) := by decide +kernel
theorem dX5_water_161 : decode cX5_water 161 = .ok (.lload 12, 2) := by decide +kernel
theorem dX5_water_163 : decode cX5_water 163 = .ok (.lconst 0, 1) := by decide +kernel
theorem dX5_water_164 : decode cX5_water 164 = .ok (.lcmp, 1) := by decide +kernel
theorem dX5_water_165 : decode cX5_water 165 = .ok (.ifCond .eq 21, 3) := by decide +kernel
theorem dX5_water_168 : decode cX5_water 168 = .ok (.lload 10, 2) := by decide +kernel
theorem dX5_water_170 : decode cX5_water 170 = .ok (.lload 12, 2) := by decide +kernel
theorem dX5_water_172 : decode cX5_water 172 = .ok (.lrem, 1) := by decide +kernel
theorem dX5_water_173 : decode cX5_water 173 = .ok (.lstore 14, 2) := by decide +kernel
theorem dX5_water_175 : decode cX5_water 175 = .ok (.lload 12, 2) := by decide +kernel
theorem dX5_water_177 : decode cX5_water 177 = .ok (.lstore 10, 2) := by decide +kernel
theorem dX5_water_179 : decode cX5_water 179 = .ok (.lload 14, 2) := by decide +kernel
theorem dX5_water_181 : decode cX5_water 181 = .ok (.lstore 12, 2) := by decide +kernel
theorem dX5_water_183 : decode cX5_water 183 = .ok (.goto (-22), 3) := by decide +kernel
theorem dX5_water_186 : decode cX5_water 186 = .ok (.iload 4, 2) := by decide +kernel
theorem dX5_water_188 : decode cX5_water 188 = .ok (.ifCond .ne 11, 3) := by decide +kernel
theorem dX5_water_191 : decode cX5_water 191 = .ok (.lload 5, 2) := by decide +kernel
theorem dX5_water_193 : decode cX5_water 193 = .ok (.lload 10, 2) := by decide +kernel
theorem dX5_water_195 : decode cX5_water 195 = .ok (.ldiv, 1) := by decide +kernel
theorem dX5_water_196 : decode cX5_water 196 = .ok (.goto 8, 3) := by decide +kernel
theorem dX5_water_199 : decode cX5_water 199 = .ok (.lload 7, 2) := by decide +kernel
theorem dX5_water_201 : decode cX5_water 201 = .ok (.lload 10, 2) := by decide +kernel
theorem dX5_water_203 : decode cX5_water 203 = .ok (.ldiv, 1) := by decide +kernel
theorem dX5_water_204 : decode cX5_water 204 = .ok (.lreturn, 1) := by decide +kernel
theorem dX5_lotsFor_0 : decode cX5_lotsFor 0 = .ok (.iconst 0, 1) := by decide +kernel
theorem dX5_lotsFor_1 : decode cX5_lotsFor 1 = .ok (.istore_n 1, 1) := by decide +kernel
theorem dX5_lotsFor_2 : decode cX5_lotsFor 2 = .ok (.iconst 1, 1) := by decide +kernel
theorem dX5_lotsFor_3 : decode cX5_lotsFor 3 = .ok (.istore_n 2, 1) := by decide +kernel
theorem dX5_lotsFor_4 : decode cX5_lotsFor 4 = .ok (.iload_n 2, 1) := by decide +kernel
theorem dX5_lotsFor_5 : decode cX5_lotsFor 5 = .ok (.iload_n 0, 1) := by decide +kernel
theorem dX5_lotsFor_6 : decode cX5_lotsFor 6 = .ok (.if_icmp .ge 13, 3) := by decide +kernel
theorem dX5_lotsFor_9 : decode cX5_lotsFor 9 = .ok (.iload_n 2, 1) := by decide +kernel
theorem dX5_lotsFor_10 : decode cX5_lotsFor 10 = .ok (.iconst 2, 1) := by decide +kernel
theorem dX5_lotsFor_11 : decode cX5_lotsFor 11 = .ok (.imul, 1) := by decide +kernel
theorem dX5_lotsFor_12 : decode cX5_lotsFor 12 = .ok (.istore_n 2, 1) := by decide +kernel
theorem dX5_lotsFor_13 : decode cX5_lotsFor 13 = .ok (.iinc 1 1, 3) := by decide +kernel
theorem dX5_lotsFor_16 : decode cX5_lotsFor 16 = .ok (.goto (-12), 3) := by decide +kernel
theorem dX5_lotsFor_19 : decode cX5_lotsFor 19 = .ok (.iload_n 1, 1) := by decide +kernel
theorem dX5_lotsFor_20 : decode cX5_lotsFor 20 = .ok (.ireturn, 1) := by decide +kernel
theorem dX5_lots_0 : decode cX5_lots 0 = .ok (.iload_n 1, 1) := by decide +kernel
theorem dX5_lots_1 : decode cX5_lots 1 = .ok (.iconst 1, 1) := by decide +kernel
theorem dX5_lots_2 : decode cX5_lots 2 = .ok (.bipush 20, 2) := by decide +kernel
theorem dX5_lots_4 : decode cX5_lots 4 = .ok (.invokestatic 38, 3) := by decide +kernel
theorem dX5_lots_7 : decode cX5_lots 7 = .ok (.ifCond .eq 33, 3) := by decide +kernel
theorem dX5_lots_10 : decode cX5_lots 10 = .ok (.iload_n 2, 1) := by decide +kernel
theorem dX5_lots_11 : decode cX5_lots 11 = .ok (.iconst 1, 1) := by decide +kernel
theorem dX5_lots_12 : decode cX5_lots 12 = .ok (.bipush 20, 2) := by decide +kernel
theorem dX5_lots_14 : decode cX5_lots 14 = .ok (.invokestatic 38, 3) := by decide +kernel
theorem dX5_lots_17 : decode cX5_lots 17 = .ok (.ifCond .eq 23, 3) := by decide +kernel
theorem dX5_lots_20 : decode cX5_lots 20 = .ok (.iload_n 3, 1) := by decide +kernel
theorem dX5_lots_21 : decode cX5_lots 21 = .ok (.iconst 1, 1) := by decide +kernel
theorem dX5_lots_22 : decode cX5_lots 22 = .ok (.bipush 20, 2) := by decide +kernel
theorem dX5_lots_24 : decode cX5_lots 24 = .ok (.invokestatic 38, 3) := by decide +kernel
theorem dX5_lots_27 : decode cX5_lots 27 = .ok (.ifCond .eq 13, 3) := by decide +kernel
theorem dX5_lots_30 : decode cX5_lots 30 = .ok (.iload 4, 2) := by decide +kernel
theorem dX5_lots_32 : decode cX5_lots 32 = .ok (.iconst 0, 1) := by decide +kernel
theorem dX5_lots_33 : decode cX5_lots 33 = .ok (.iconst 1, 1) := by decide +kernel
theorem dX5_lots_34 : decode cX5_lots 34 = .ok (.invokestatic 38, 3) := by decide +kernel
theorem dX5_lots_37 : decode cX5_lots 37 = .ok (.ifCond .ne 6, 3) := by decide +kernel
theorem dX5_lots_40 : decode cX5_lots 40 = .ok (.bipush (-2), 2) := by decide +kernel
theorem dX5_lots_42 : decode cX5_lots 42 = .ok (.ireturn, 1) := by decide +kernel
theorem dX5_lots_43 : decode cX5_lots 43 = .ok (.iload 4, 2) := by decide +kernel
theorem dX5_lots_45 : decode cX5_lots 45 = .ok (.ifCond .ne 14, 3) := by decide +kernel
theorem dX5_lots_48 : decode cX5_lots 48 = .ok (.iload_n 1, 1) := by decide +kernel
theorem dX5_lots_49 : decode cX5_lots 49 = .ok (.iload_n 2, 1) := by decide +kernel
theorem dX5_lots_50 : decode cX5_lots 50 = .ok (.imul, 1) := by decide +kernel
theorem dX5_lots_51 : decode cX5_lots 51 = .ok (.iload_n 3, 1) := by decide +kernel
theorem dX5_lots_52 : decode cX5_lots 52 = .ok (.imul, 1) := by decide +kernel
theorem dX5_lots_53 : decode cX5_lots 53 = .ok (.invokestatic 132, 3) := by decide +kernel
theorem dX5_lots_56 : decode cX5_lots 56 = .ok (.goto 17, 3) := by decide +kernel
theorem dX5_lots_59 : decode cX5_lots 59 = .ok (.iload_n 1, 1) := by decide +kernel
theorem dX5_lots_60 : decode cX5_lots 60 = .ok (.invokestatic 132, 3) := by decide +kernel
theorem dX5_lots_63 : decode cX5_lots 63 = .ok (.iload_n 2, 1) := by decide +kernel
theorem dX5_lots_64 : decode cX5_lots 64 = .ok (.invokestatic 132, 3) := by decide +kernel
theorem dX5_lots_67 : decode cX5_lots 67 = .ok (.iadd, 1) := by decide +kernel
theorem dX5_lots_68 : decode cX5_lots 68 = .ok (.iload_n 3, 1) := by decide +kernel
theorem dX5_lots_69 : decode cX5_lots 69 = .ok (.invokestatic 132, 3) := by decide +kernel
theorem dX5_lots_72 : decode cX5_lots 72 = .ok (.iadd, 1) := by decide +kernel
theorem dX5_lots_73 : decode cX5_lots 73 = .ok (.ireturn, 1) := by decide +kernel
theorem dX5_day_0 : decode cX5_day 0 = .ok (.iload_n 1, 1) := by decide +kernel
theorem dX5_day_1 : decode cX5_day 1 = .ok (.iconst 0, 1) := by decide +kernel
theorem dX5_day_2 : decode cX5_day 2 = .ok (.sipush 9999, 3) := by decide +kernel
theorem dX5_day_5 : decode cX5_day 5 = .ok (.invokestatic 38, 3) := by decide +kernel
theorem dX5_day_8 : decode cX5_day 8 = .ok (.ifCond .eq 22, 3) := by decide +kernel
theorem dX5_day_11 : decode cX5_day 11 = .ok (.iload_n 2, 1) := by decide +kernel
theorem dX5_day_12 : decode cX5_day 12 = .ok (.iconst 1, 1) := by decide +kernel
theorem dX5_day_13 : decode cX5_day 13 = .ok (.bipush 99, 2) := by decide +kernel
theorem dX5_day_15 : decode cX5_day 15 = .ok (.invokestatic 38, 3) := by decide +kernel
theorem dX5_day_18 : decode cX5_day 18 = .ok (.ifCond .eq 12, 3) := by decide +kernel
theorem dX5_day_21 : decode cX5_day 21 = .ok (.iload_n 3, 1) := by decide +kernel
theorem dX5_day_22 : decode cX5_day 22 = .ok (.iconst 0, 1) := by decide +kernel
theorem dX5_day_23 : decode cX5_day 23 = .ok (.iconst 2, 1) := by decide +kernel
theorem dX5_day_24 : decode cX5_day 24 = .ok (.invokestatic 38, 3) := by decide +kernel
theorem dX5_day_27 : decode cX5_day 27 = .ok (.ifCond .ne 6, 3) := by decide +kernel
theorem dX5_day_30 : decode cX5_day 30 = .ok (.bipush (-2), 2) := by decide +kernel
theorem dX5_day_32 : decode cX5_day 32 = .ok (.ireturn, 1) := by decide +kernel
theorem dX5_day_33 : decode cX5_day 33 = .ok (.aload_n 0, 1) := by decide +kernel
theorem dX5_day_34 : decode cX5_day 34 = .ok (.invokevirtual 83, 3) := by decide +kernel
theorem dX5_day_37 : decode cX5_day 37 = .ok (.iload_n 1, 1) := by decide +kernel
theorem dX5_day_38 : decode cX5_day 38 = .ok (.istore 4, 2) := by decide +kernel
theorem dX5_day_40 : decode cX5_day 40 = .ok (.iconst 0, 1) := by decide +kernel
theorem dX5_day_41 : decode cX5_day 41 = .ok (.istore 5, 2) := by decide +kernel
theorem dX5_day_43 : decode cX5_day 43 = .ok (.iload 5, 2) := by decide +kernel
theorem dX5_day_45 : decode cX5_day 45 = .ok (.iload_n 2, 1) := by decide +kernel
theorem dX5_day_46 : decode cX5_day 46 = .ok (.if_icmp .ge 91, 3) := by decide +kernel
theorem dX5_day_49 : decode cX5_day 49 = .ok (.bipush 75, 2) := by decide +kernel
theorem dX5_day_51 : decode cX5_day 51 = .ok (.iload 4, 2) := by decide +kernel
theorem dX5_day_53 : decode cX5_day 53 = .ok (.imul, 1) := by decide +kernel
theorem dX5_day_54 : decode cX5_day 54 = .ok (.bipush 74, 2) := by decide +kernel
theorem dX5_day_56 : decode cX5_day 56 = .ok (.iadd, 1) := by decide +kernel
theorem dX5_day_57 : decode cX5_day 57 = .ok (.ldc 135, 2) := by decide +kernel
theorem dX5_day_59 : decode cX5_day 59 = .ok (.irem, 1) := by decide +kernel
theorem dX5_day_60 : decode cX5_day 60 = .ok (.istore 4, 2) := by decide +kernel
theorem dX5_day_62 : decode cX5_day 62 = .ok (.iload 4, 2) := by decide +kernel
theorem dX5_day_64 : decode cX5_day 64 = .ok (.bipush 8, 2) := by decide +kernel
theorem dX5_day_66 : decode cX5_day 66 = .ok (.irem, 1) := by decide +kernel
theorem dX5_day_67 : decode cX5_day 67 = .ok (.istore 6, 2) := by decide +kernel
theorem dX5_day_69 : decode cX5_day 69 = .ok (.iload 6, 2) := by decide +kernel
theorem dX5_day_71 : decode cX5_day 71 = .ok (.iconst 4, 1) := by decide +kernel
theorem dX5_day_72 : decode cX5_day 72 = .ok (.if_icmp .ge 8, 3) := by decide +kernel
theorem dX5_day_75 : decode cX5_day 75 = .ok (.bipush 46, 2) := by decide +kernel
theorem dX5_day_77 : decode cX5_day 77 = .ok (.goto 29, 3) := by decide +kernel
theorem dX5_day_80 : decode cX5_day 80 = .ok (.iload 6, 2) := by decide +kernel
theorem dX5_day_82 : decode cX5_day 82 = .ok (.bipush 6, 2) := by decide +kernel
theorem dX5_day_84 : decode cX5_day 84 = .ok (.if_icmp .ge 8, 3) := by decide +kernel
theorem dX5_day_87 : decode cX5_day 87 = .ok (.bipush 104, 2) := by decide +kernel
theorem dX5_day_89 : decode cX5_day 89 = .ok (.goto 17, 3) := by decide +kernel
theorem dX5_day_92 : decode cX5_day 92 = .ok (.iload 6, 2) := by decide +kernel
theorem dX5_day_94 : decode cX5_day 94 = .ok (.bipush 6, 2) := by decide +kernel
theorem dX5_day_96 : decode cX5_day 96 = .ok (.if_icmp .ne 8, 3) := by decide +kernel
theorem dX5_day_99 : decode cX5_day 99 = .ok (.bipush 33, 2) := by decide +kernel
theorem dX5_day_101 : decode cX5_day 101 = .ok (.goto 5, 3) := by decide +kernel
theorem dX5_day_104 : decode cX5_day 104 = .ok (.bipush 110, 2) := by decide +kernel
theorem dX5_day_106 : decode cX5_day 106 = .ok (.istore 7, 2) := by decide +kernel
theorem dX5_day_108 : decode cX5_day 108 = .ok (.aload_n 0, 1) := by decide +kernel
theorem dX5_day_109 : decode cX5_day 109 = .ok (.iload 7, 2) := by decide +kernel
theorem dX5_day_111 : decode cX5_day 111 = .ok (.invokevirtual 95, 3) := by decide +kernel
theorem dX5_day_114 : decode cX5_day 114 = .ok (.ifCond .ne 17, 3) := by decide +kernel
theorem dX5_day_117 : decode cX5_day 117 = .ok (.aload_n 0, 1) := by decide +kernel
theorem dX5_day_118 : decode cX5_day 118 = .ok (.iload 7, 2) := by decide +kernel
theorem dX5_day_120 : decode cX5_day 120 = .ok (.iload 4, 2) := by decide +kernel
theorem dX5_day_122 : decode cX5_day 122 = .ok (.bipush 8, 2) := by decide +kernel
theorem dX5_day_124 : decode cX5_day 124 = .ok (.idiv, 1) := by decide +kernel
theorem dX5_day_125 : decode cX5_day 125 = .ok (.bipush 10, 2) := by decide +kernel
theorem dX5_day_127 : decode cX5_day 127 = .ok (.irem, 1) := by decide +kernel
theorem dX5_day_128 : decode cX5_day 128 = .ok (.invokevirtual 104, 3) := by decide +kernel
theorem dX5_day_131 : decode cX5_day 131 = .ok (.iinc 5 1, 3) := by decide +kernel
theorem dX5_day_134 : decode cX5_day 134 = .ok (.goto (-91), 3) := by decide +kernel
theorem dX5_day_137 : decode cX5_day 137 = .ok (.iload_n 3, 1) := by decide +kernel
theorem dX5_day_138 : decode cX5_day 138 = .ok (.ifCond .ne 13, 3) := by decide +kernel
theorem dX5_day_141 : decode cX5_day 141 = .ok (.aload_n 0, 1) := by decide +kernel
theorem dX5_day_142 : decode cX5_day 142 = .ok (.invokevirtual 101, 3) := by decide +kernel
theorem dX5_day_145 : decode cX5_day 145 = .ok (.invokestatic 50, 3) := by decide +kernel
theorem dX5_day_148 : decode cX5_day 148 = .ok (.goto 25, 3) := by decide +kernel
theorem dX5_day_151 : decode cX5_day 151 = .ok (.iload_n 3, 1) := by decide +kernel
theorem dX5_day_152 : decode cX5_day 152 = .ok (.iconst 1, 1) := by decide +kernel
theorem dX5_day_153 : decode cX5_day 153 = .ok (.if_icmp .ne 13, 3) := by decide +kernel
theorem dX5_day_156 : decode cX5_day 156 = .ok (.aload_n 0, 1) := by decide +kernel
theorem dX5_day_157 : decode cX5_day 157 = .ok (.getfield 13, 3) := by decide +kernel
theorem dX5_day_160 : decode cX5_day 160 = .ok (.bipush 12, 2) := by decide +kernel
theorem dX5_day_162 : decode cX5_day 162 = .ok (.iaload, 1) := by decide +kernel
theorem dX5_day_163 : decode cX5_day 163 = .ok (.goto 10, 3) := by decide +kernel
theorem dX5_day_166 : decode cX5_day 166 = .ok (.aload_n 0, 1) := by decide +kernel
theorem dX5_day_167 : decode cX5_day 167 = .ok (.getfield 13, 3) := by decide +kernel
theorem dX5_day_170 : decode cX5_day 170 = .ok (.bipush 14, 2) := by decide +kernel
theorem dX5_day_172 : decode cX5_day 172 = .ok (.iaload, 1) := by decide +kernel
theorem dX5_day_173 : decode cX5_day 173 = .ok (.ireturn, 1) := by decide +kernel
theorem dX5_image_0 : decode cX5_image 0 = .ok (.iload_n 1, 1) := by decide +kernel
theorem dX5_image_1 : decode cX5_image 1 = .ok (.iconst 0, 1) := by decide +kernel
theorem dX5_image_2 : decode cX5_image 2 = .ok (.iconst 1, 1) := by decide +kernel
theorem dX5_image_3 : decode cX5_image 3 = .ok (.invokestatic 38, 3) := by decide +kernel
theorem dX5_image_6 : decode cX5_image 6 = .ok (.ifCond .ne 6, 3) := by decide +kernel
theorem dX5_image_9 : decode cX5_image 9 = .ok (.bipush (-2), 2) := by decide +kernel
theorem dX5_image_11 : decode cX5_image 11 = .ok (.ireturn, 1) := by decide +kernel
theorem dX5_image_12 : decode cX5_image 12 = .ok (.bipush 60, 2) := by decide +kernel
theorem dX5_image_14 : decode cX5_image 14 = .ok (.iload_n 1, 1) := by decide +kernel
theorem dX5_image_15 : decode cX5_image 15 = .ok (.imul, 1) := by decide +kernel
theorem dX5_image_16 : decode cX5_image 16 = .ok (.istore_n 2, 1) := by decide +kernel
theorem dX5_image_17 : decode cX5_image 17 = .ok (.iconst 0, 1) := by decide +kernel
theorem dX5_image_18 : decode cX5_image 18 = .ok (.istore_n 3, 1) := by decide +kernel
theorem dX5_image_19 : decode cX5_image 19 = .ok (.iload_n 3, 1) := by decide +kernel
theorem dX5_image_20 : decode cX5_image 20 = .ok (.bipush 15, 2) := by decide +kernel
theorem dX5_image_22 : decode cX5_image 22 = .ok (.if_icmp .ge 23, 3) := by decide +kernel
theorem dX5_image_25 : decode cX5_image 25 = .ok (.aload_n 0, 1) := by decide +kernel
theorem dX5_image_26 : decode cX5_image 26 = .ok (.getfield 31, 3) := by decide +kernel
theorem dX5_image_29 : decode cX5_image 29 = .ok (.iload_n 2, 1) := by decide +kernel
theorem dX5_image_30 : decode cX5_image 30 = .ok (.iload_n 3, 1) := by decide +kernel
theorem dX5_image_31 : decode cX5_image 31 = .ok (.iadd, 1) := by decide +kernel
theorem dX5_image_32 : decode cX5_image 32 = .ok (.aload_n 0, 1) := by decide +kernel
theorem dX5_image_33 : decode cX5_image 33 = .ok (.getfield 7, 3) := by decide +kernel
theorem dX5_image_36 : decode cX5_image 36 = .ok (.iload_n 3, 1) := by decide +kernel
theorem dX5_image_37 : decode cX5_image 37 = .ok (.iaload, 1) := by decide +kernel
theorem dX5_image_38 : decode cX5_image 38 = .ok (.iastore, 1) := by decide +kernel
theorem dX5_image_39 : decode cX5_image 39 = .ok (.iinc 3 1, 3) := by decide +kernel
theorem dX5_image_42 : decode cX5_image 42 = .ok (.goto (-23), 3) := by decide +kernel
theorem dX5_image_45 : decode cX5_image 45 = .ok (.iconst 0, 1) := by decide +kernel
theorem dX5_image_46 : decode cX5_image 46 = .ok (.istore_n 3, 1) := by decide +kernel
theorem dX5_image_47 : decode cX5_image 47 = .ok (.iload_n 3, 1) := by decide +kernel
theorem dX5_image_48 : decode cX5_image 48 = .ok (.bipush 12, 2) := by decide +kernel
theorem dX5_image_50 : decode cX5_image 50 = .ok (.if_icmp .ge 26, 3) := by decide +kernel
theorem dX5_image_53 : decode cX5_image 53 = .ok (.aload_n 0, 1) := by decide +kernel
theorem dX5_image_54 : decode cX5_image 54 = .ok (.getfield 31, 3) := by decide +kernel
theorem dX5_image_57 : decode cX5_image 57 = .ok (.iload_n 2, 1) := by decide +kernel
theorem dX5_image_58 : decode cX5_image 58 = .ok (.bipush 15, 2) := by decide +kernel
theorem dX5_image_60 : decode cX5_image 60 = .ok (.iadd, 1) := by decide +kernel
theorem dX5_image_61 : decode cX5_image 61 = .ok (.iload_n 3, 1) := by decide +kernel
theorem dX5_image_62 : decode cX5_image 62 = .ok (.iadd, 1) := by decide +kernel
theorem dX5_image_63 : decode cX5_image 63 = .ok (.aload_n 0, 1) := by decide +kernel
theorem dX5_image_64 : decode cX5_image 64 = .ok (.getfield 16, 3) := by decide +kernel
theorem dX5_image_67 : decode cX5_image 67 = .ok (.iload_n 3, 1) := by decide +kernel
theorem dX5_image_68 : decode cX5_image 68 = .ok (.iaload, 1) := by decide +kernel
theorem dX5_image_69 : decode cX5_image 69 = .ok (.iastore, 1) := by decide +kernel
theorem dX5_image_70 : decode cX5_image 70 = .ok (.iinc 3 1, 3) := by decide +kernel
theorem dX5_image_73 : decode cX5_image 73 = .ok (.goto (-26), 3) := by decide +kernel
theorem dX5_image_76 : decode cX5_image 76 = .ok (.iconst 0, 1) := by decide +kernel
theorem dX5_image_77 : decode cX5_image 77 = .ok (.istore_n 3, 1) := by decide +kernel
theorem dX5_image_78 : decode cX5_image 78 = .ok (.iload_n 3, 1) := by decide +kernel
theorem dX5_image_79 : decode cX5_image 79 = .ok (.bipush 8, 2) := by decide +kernel
theorem dX5_image_81 : decode cX5_image 81 = .ok (.if_icmp .ge 26, 3) := by decide +kernel
theorem dX5_image_84 : decode cX5_image 84 = .ok (.aload_n 0, 1) := by decide +kernel
theorem dX5_image_85 : decode cX5_image 85 = .ok (.getfield 31, 3) := by decide +kernel
theorem dX5_image_88 : decode cX5_image 88 = .ok (.iload_n 2, 1) := by decide +kernel
theorem dX5_image_89 : decode cX5_image 89 = .ok (.bipush 27, 2) := by decide +kernel
theorem dX5_image_91 : decode cX5_image 91 = .ok (.iadd, 1) := by decide +kernel
theorem dX5_image_92 : decode cX5_image 92 = .ok (.iload_n 3, 1) := by decide +kernel
theorem dX5_image_93 : decode cX5_image 93 = .ok (.iadd, 1) := by decide +kernel
theorem dX5_image_94 : decode cX5_image 94 = .ok (.aload_n 0, 1) := by decide +kernel
theorem dX5_image_95 : decode cX5_image 95 = .ok (.getfield 19, 3) := by decide +kernel
theorem dX5_image_98 : decode cX5_image 98 = .ok (.iload_n 3, 1) := by decide +kernel
theorem dX5_image_99 : decode cX5_image 99 = .ok (.iaload, 1) := by decide +kernel
theorem dX5_image_100 : decode cX5_image 100 = .ok (.iastore, 1) := by decide +kernel
theorem dX5_image_101 : decode cX5_image 101 = .ok (.iinc 3 1, 3) := by decide +kernel
theorem dX5_image_104 : decode cX5_image 104 = .ok (.goto (-26), 3) := by decide +kernel
theorem dX5_image_107 : decode cX5_image 107 = .ok (.iconst 0, 1) := by decide +kernel
theorem dX5_image_108 : decode cX5_image 108 = .ok (.istore_n 3, 1) := by decide +kernel
theorem dX5_image_109 : decode cX5_image 109 = .ok (.iload_n 3, 1) := by decide +kernel
theorem dX5_image_110 : decode cX5_image 110 = .ok (.bipush 16, 2) := by decide +kernel
theorem dX5_image_112 : decode cX5_image 112 = .ok (.if_icmp .ge 26, 3) := by decide +kernel
theorem dX5_image_115 : decode cX5_image 115 = .ok (.aload_n 0, 1) := by decide +kernel
theorem dX5_image_116 : decode cX5_image 116 = .ok (.getfield 31, 3) := by decide +kernel
theorem dX5_image_119 : decode cX5_image 119 = .ok (.iload_n 2, 1) := by decide +kernel
theorem dX5_image_120 : decode cX5_image 120 = .ok (.bipush 35, 2) := by decide +kernel
theorem dX5_image_122 : decode cX5_image 122 = .ok (.iadd, 1) := by decide +kernel
theorem dX5_image_123 : decode cX5_image 123 = .ok (.iload_n 3, 1) := by decide +kernel
theorem dX5_image_124 : decode cX5_image 124 = .ok (.iadd, 1) := by decide +kernel
theorem dX5_image_125 : decode cX5_image 125 = .ok (.aload_n 0, 1) := by decide +kernel
theorem dX5_image_126 : decode cX5_image 126 = .ok (.getfield 22, 3) := by decide +kernel
theorem dX5_image_129 : decode cX5_image 129 = .ok (.iload_n 3, 1) := by decide +kernel
theorem dX5_image_130 : decode cX5_image 130 = .ok (.iaload, 1) := by decide +kernel
theorem dX5_image_131 : decode cX5_image 131 = .ok (.iastore, 1) := by decide +kernel
theorem dX5_image_132 : decode cX5_image 132 = .ok (.iinc 3 1, 3) := by decide +kernel
theorem dX5_image_135 : decode cX5_image 135 = .ok (.goto (-26), 3) := by decide +kernel
theorem dX5_image_138 : decode cX5_image 138 = .ok (.aload_n 0, 1) := by decide +kernel
theorem dX5_image_139 : decode cX5_image 139 = .ok (.getfield 31, 3) := by decide +kernel
theorem dX5_image_142 : decode cX5_image 142 = .ok (.iload_n 2, 1) := by decide +kernel
theorem dX5_image_143 : decode cX5_image 143 = .ok (.bipush 55, 2) := by decide +kernel
theorem dX5_image_145 : decode cX5_image 145 = .ok (.iadd, 1) := by decide +kernel
theorem dX5_image_146 : decode cX5_image 146 = .ok (.aload_n 0, 1) := by decide +kernel
theorem dX5_image_147 : decode cX5_image 147 = .ok (.getfield 46, 3) := by decide +kernel
theorem dX5_image_150 : decode cX5_image 150 = .ok (.iastore, 1) := by decide +kernel
theorem dX5_image_151 : decode cX5_image 151 = .ok (.aload_n 0, 1) := by decide +kernel
theorem dX5_image_152 : decode cX5_image 152 = .ok (.getfield 31, 3) := by decide +kernel
theorem dX5_image_155 : decode cX5_image 155 = .ok (.iload_n 2, 1) := by decide +kernel
theorem dX5_image_156 : decode cX5_image 156 = .ok (.bipush 56, 2) := by decide +kernel
theorem dX5_image_158 : decode cX5_image 158 = .ok (.iadd, 1) := by decide +kernel
theorem dX5_image_159 : decode cX5_image 159 = .ok (.aload_n 0, 1) := by decide +kernel
theorem dX5_image_160 : decode cX5_image 160 = .ok (.getfield 117, 3) := by decide +kernel
theorem dX5_image_163 : decode cX5_image 163 = .ok (.iastore, 1) := by decide +kernel
theorem dX5_image_164 : decode cX5_image 164 = .ok (.aload_n 0, 1) := by decide +kernel
theorem dX5_image_165 : decode cX5_image 165 = .ok (.getfield 34, 3) := by decide +kernel
theorem dX5_image_168 : decode cX5_image 168 = .ok (.iload_n 1, 1) := by decide +kernel
theorem dX5_image_169 : decode cX5_image 169 = .ok (.iconst 1, 1) := by decide +kernel
theorem dX5_image_170 : decode cX5_image 170 = .ok (.bastore, 1) := by decide +kernel
theorem dX5_image_171 : decode cX5_image 171 = .ok (.iconst 1, 1) := by decide +kernel
theorem dX5_image_172 : decode cX5_image 172 = .ok (.ireturn, 1) := by decide +kernel
theorem dX5_restore_0 : decode cX5_restore 0 = .ok (.iload_n 1, 1) := by decide +kernel
theorem dX5_restore_1 : decode cX5_restore 1 = .ok (.iconst 0, 1) := by decide +kernel
theorem dX5_restore_2 : decode cX5_restore 2 = .ok (.iconst 1, 1) := by decide +kernel
theorem dX5_restore_3 : decode cX5_restore 3 = .ok (.invokestatic 38, 3) := by decide +kernel
theorem dX5_restore_6 : decode cX5_restore 6 = .ok (.ifCond .ne 6, 3) := by decide +kernel
theorem dX5_restore_9 : decode cX5_restore 9 = .ok (.bipush (-2), 2) := by decide +kernel
theorem dX5_restore_11 : decode cX5_restore 11 = .ok (.ireturn, 1) := by decide +kernel
theorem dX5_restore_12 : decode cX5_restore 12 = .ok (.aload_n 0, 1) := by decide +kernel
theorem dX5_restore_13 : decode cX5_restore 13 = .ok (.getfield 34, 3) := by decide +kernel
theorem dX5_restore_16 : decode cX5_restore 16 = .ok (.iload_n 1, 1) := by decide +kernel
theorem dX5_restore_17 : decode cX5_restore 17 = .ok (.baload, 1) := by decide +kernel
theorem dX5_restore_18 : decode cX5_restore 18 = .ok (.ifCond .ne 6, 3) := by decide +kernel
theorem dX5_restore_21 : decode cX5_restore 21 = .ok (.bipush (-3), 2) := by decide +kernel
theorem dX5_restore_23 : decode cX5_restore 23 = .ok (.ireturn, 1) := by decide +kernel
theorem dX5_restore_24 : decode cX5_restore 24 = .ok (.bipush 60, 2) := by decide +kernel
theorem dX5_restore_26 : decode cX5_restore 26 = .ok (.iload_n 1, 1) := by decide +kernel
theorem dX5_restore_27 : decode cX5_restore 27 = .ok (.imul, 1) := by decide +kernel
theorem dX5_restore_28 : decode cX5_restore 28 = .ok (.istore_n 2, 1) := by decide +kernel
theorem dX5_restore_29 : decode cX5_restore 29 = .ok (.iconst 0, 1) := by decide +kernel
theorem dX5_restore_30 : decode cX5_restore 30 = .ok (.istore_n 3, 1) := by decide +kernel
theorem dX5_restore_31 : decode cX5_restore 31 = .ok (.iload_n 3, 1) := by decide +kernel
theorem dX5_restore_32 : decode cX5_restore 32 = .ok (.bipush 15, 2) := by decide +kernel
theorem dX5_restore_34 : decode cX5_restore 34 = .ok (.if_icmp .ge 23, 3) := by decide +kernel
theorem dX5_restore_37 : decode cX5_restore 37 = .ok (.aload_n 0, 1) := by decide +kernel
theorem dX5_restore_38 : decode cX5_restore 38 = .ok (.getfield 7, 3) := by decide +kernel
theorem dX5_restore_41 : decode cX5_restore 41 = .ok (.iload_n 3, 1) := by decide +kernel
theorem dX5_restore_42 : decode cX5_restore 42 = .ok (.aload_n 0, 1) := by decide +kernel
theorem dX5_restore_43 : decode cX5_restore 43 = .ok (.getfield 31, 3) := by decide +kernel
theorem dX5_restore_46 : decode cX5_restore 46 = .ok (.iload_n 2, 1) := by decide +kernel
theorem dX5_restore_47 : decode cX5_restore 47 = .ok (.iload_n 3, 1) := by decide +kernel
theorem dX5_restore_48 : decode cX5_restore 48 = .ok (.iadd, 1) := by decide +kernel
theorem dX5_restore_49 : decode cX5_restore 49 = .ok (.iaload, 1) := by decide +kernel
theorem dX5_restore_50 : decode cX5_restore 50 = .ok (.iastore, 1) := by decide +kernel
theorem dX5_restore_51 : decode cX5_restore 51 = .ok (.iinc 3 1, 3) := by decide +kernel
theorem dX5_restore_54 : decode cX5_restore 54 = .ok (.goto (-23), 3) := by decide +kernel
theorem dX5_restore_57 : decode cX5_restore 57 = .ok (.iconst 0, 1) := by decide +kernel
theorem dX5_restore_58 : decode cX5_restore 58 = .ok (.istore_n 3, 1) := by decide +kernel
theorem dX5_restore_59 : decode cX5_restore 59 = .ok (.iload_n 3, 1) := by decide +kernel
theorem dX5_restore_60 : decode cX5_restore 60 = .ok (.bipush 12, 2) := by decide +kernel
theorem dX5_restore_62 : decode cX5_restore 62 = .ok (.if_icmp .ge 26, 3) := by decide +kernel
theorem dX5_restore_65 : decode cX5_restore 65 = .ok (.aload_n 0, 1) := by decide +kernel
theorem dX5_restore_66 : decode cX5_restore 66 = .ok (.getfield 16, 3) := by decide +kernel
theorem dX5_restore_69 : decode cX5_restore 69 = .ok (.iload_n 3, 1) := by decide +kernel
theorem dX5_restore_70 : decode cX5_restore 70 = .ok (.aload_n 0, 1) := by decide +kernel
theorem dX5_restore_71 : decode cX5_restore 71 = .ok (.getfield 31, 3) := by decide +kernel
theorem dX5_restore_74 : decode cX5_restore 74 = .ok (.iload_n 2, 1) := by decide +kernel
theorem dX5_restore_75 : decode cX5_restore 75 = .ok (.bipush 15, 2) := by decide +kernel
theorem dX5_restore_77 : decode cX5_restore 77 = .ok (.iadd, 1) := by decide +kernel
theorem dX5_restore_78 : decode cX5_restore 78 = .ok (.iload_n 3, 1) := by decide +kernel
theorem dX5_restore_79 : decode cX5_restore 79 = .ok (.iadd, 1) := by decide +kernel
theorem dX5_restore_80 : decode cX5_restore 80 = .ok (.iaload, 1) := by decide +kernel
theorem dX5_restore_81 : decode cX5_restore 81 = .ok (.iastore, 1) := by decide +kernel
theorem dX5_restore_82 : decode cX5_restore 82 = .ok (.iinc 3 1, 3) := by decide +kernel
theorem dX5_restore_85 : decode cX5_restore 85 = .ok (.goto (-26), 3) := by decide +kernel
theorem dX5_restore_88 : decode cX5_restore 88 = .ok (.iconst 0, 1) := by decide +kernel
theorem dX5_restore_89 : decode cX5_restore 89 = .ok (.istore_n 3, 1) := by decide +kernel
theorem dX5_restore_90 : decode cX5_restore 90 = .ok (.iload_n 3, 1) := by decide +kernel
theorem dX5_restore_91 : decode cX5_restore 91 = .ok (.bipush 8, 2) := by decide +kernel
theorem dX5_restore_93 : decode cX5_restore 93 = .ok (.if_icmp .ge 26, 3) := by decide +kernel
theorem dX5_restore_96 : decode cX5_restore 96 = .ok (.aload_n 0, 1) := by decide +kernel
theorem dX5_restore_97 : decode cX5_restore 97 = .ok (.getfield 19, 3) := by decide +kernel
theorem dX5_restore_100 : decode cX5_restore 100 = .ok (.iload_n 3, 1) := by decide +kernel
theorem dX5_restore_101 : decode cX5_restore 101 = .ok (.aload_n 0, 1) := by decide +kernel
theorem dX5_restore_102 : decode cX5_restore 102 = .ok (.getfield 31, 3) := by decide +kernel
theorem dX5_restore_105 : decode cX5_restore 105 = .ok (.iload_n 2, 1) := by decide +kernel
theorem dX5_restore_106 : decode cX5_restore 106 = .ok (.bipush 27, 2) := by decide +kernel
theorem dX5_restore_108 : decode cX5_restore 108 = .ok (.iadd, 1) := by decide +kernel
theorem dX5_restore_109 : decode cX5_restore 109 = .ok (.iload_n 3, 1) := by decide +kernel
theorem dX5_restore_110 : decode cX5_restore 110 = .ok (.iadd, 1) := by decide +kernel
theorem dX5_restore_111 : decode cX5_restore 111 = .ok (.iaload, 1) := by decide +kernel
theorem dX5_restore_112 : decode cX5_restore 112 = .ok (.iastore, 1) := by decide +kernel
theorem dX5_restore_113 : decode cX5_restore 113 = .ok (.iinc 3 1, 3) := by decide +kernel
theorem dX5_restore_116 : decode cX5_restore 116 = .ok (.goto (-26), 3) := by decide +kernel
theorem dX5_restore_119 : decode cX5_restore 119 = .ok (.iconst 0, 1) := by decide +kernel
theorem dX5_restore_120 : decode cX5_restore 120 = .ok (.istore_n 3, 1) := by decide +kernel
theorem dX5_restore_121 : decode cX5_restore 121 = .ok (.iload_n 3, 1) := by decide +kernel
theorem dX5_restore_122 : decode cX5_restore 122 = .ok (.bipush 16, 2) := by decide +kernel
theorem dX5_restore_124 : decode cX5_restore 124 = .ok (.if_icmp .ge 26, 3) := by decide +kernel
theorem dX5_restore_127 : decode cX5_restore 127 = .ok (.aload_n 0, 1) := by decide +kernel
theorem dX5_restore_128 : decode cX5_restore 128 = .ok (.getfield 22, 3) := by decide +kernel
theorem dX5_restore_131 : decode cX5_restore 131 = .ok (.iload_n 3, 1) := by decide +kernel
theorem dX5_restore_132 : decode cX5_restore 132 = .ok (.aload_n 0, 1) := by decide +kernel
theorem dX5_restore_133 : decode cX5_restore 133 = .ok (.getfield 31, 3) := by decide +kernel
theorem dX5_restore_136 : decode cX5_restore 136 = .ok (.iload_n 2, 1) := by decide +kernel
theorem dX5_restore_137 : decode cX5_restore 137 = .ok (.bipush 35, 2) := by decide +kernel
theorem dX5_restore_139 : decode cX5_restore 139 = .ok (.iadd, 1) := by decide +kernel
theorem dX5_restore_140 : decode cX5_restore 140 = .ok (.iload_n 3, 1) := by decide +kernel
theorem dX5_restore_141 : decode cX5_restore 141 = .ok (.iadd, 1) := by decide +kernel
theorem dX5_restore_142 : decode cX5_restore 142 = .ok (.iaload, 1) := by decide +kernel
theorem dX5_restore_143 : decode cX5_restore 143 = .ok (.iastore, 1) := by decide +kernel
theorem dX5_restore_144 : decode cX5_restore 144 = .ok (.iinc 3 1, 3) := by decide +kernel
theorem dX5_restore_147 : decode cX5_restore 147 = .ok (.goto (-26), 3) := by decide +kernel
theorem dX5_restore_150 : decode cX5_restore 150 = .ok (.aload_n 0, 1) := by decide +kernel
theorem dX5_restore_151 : decode cX5_restore 151 = .ok (.aload_n 0, 1) := by decide +kernel
theorem dX5_restore_152 : decode cX5_restore 152 = .ok (.getfield 31, 3) := by decide +kernel
theorem dX5_restore_155 : decode cX5_restore 155 = .ok (.iload_n 2, 1) := by decide +kernel
theorem dX5_restore_156 : decode cX5_restore 156 = .ok (.bipush 55, 2) := by decide +kernel
theorem dX5_restore_158 : decode cX5_restore 158 = .ok (.iadd, 1) := by decide +kernel
theorem dX5_restore_159 : decode cX5_restore 159 = .ok (.iaload, 1) := by decide +kernel
theorem dX5_restore_160 : decode cX5_restore 160 = .ok (.putfield 46, 3) := by decide +kernel
theorem dX5_restore_163 : decode cX5_restore 163 = .ok (.aload_n 0, 1) := by decide +kernel
theorem dX5_restore_164 : decode cX5_restore 164 = .ok (.aload_n 0, 1) := by decide +kernel
theorem dX5_restore_165 : decode cX5_restore 165 = .ok (.getfield 31, 3) := by decide +kernel
theorem dX5_restore_168 : decode cX5_restore 168 = .ok (.iload_n 2, 1) := by decide +kernel
theorem dX5_restore_169 : decode cX5_restore 169 = .ok (.bipush 56, 2) := by decide +kernel
theorem dX5_restore_171 : decode cX5_restore 171 = .ok (.iadd, 1) := by decide +kernel
theorem dX5_restore_172 : decode cX5_restore 172 = .ok (.iaload, 1) := by decide +kernel
theorem dX5_restore_173 : decode cX5_restore 173 = .ok (.putfield 117, 3) := by decide +kernel
theorem dX5_restore_176 : decode cX5_restore 176 = .ok (.iconst 1, 1) := by decide +kernel
theorem dX5_restore_177 : decode cX5_restore 177 = .ok (.ireturn, 1) := by decide +kernel
theorem dX5_told_0 : decode cX5_told 0 = .ok (.iload_n 1, 1) := by decide +kernel
theorem dX5_told_1 : decode cX5_told 1 = .ok (.bipush 50, 2) := by decide +kernel
theorem dX5_told_3 : decode cX5_told 3 = .ok (.if_icmp .lt 29, 3) := by decide +kernel
theorem dX5_told_6 : decode cX5_told 6 = .ok (.iload_n 1, 1) := by decide +kernel
theorem dX5_told_7 : decode cX5_told 7 = .ok (.bipush 50, 2) := by decide +kernel
theorem dX5_told_9 : decode cX5_told 9 = .ok (.bipush 57, 2) := by decide +kernel
theorem dX5_told_11 : decode cX5_told 11 = .ok (.invokestatic 38, 3) := by decide +kernel
theorem dX5_told_14 : decode cX5_told 14 = .ok (.ifCond .eq 15, 3) := by decide +kernel
theorem dX5_told_17 : decode cX5_told 17 = .ok (.aload_n 0, 1) := by decide +kernel
theorem dX5_told_18 : decode cX5_told 18 = .ok (.getfield 19, 3) := by decide +kernel
theorem dX5_told_21 : decode cX5_told 21 = .ok (.iload_n 1, 1) := by decide +kernel
theorem dX5_told_22 : decode cX5_told 22 = .ok (.bipush 50, 2) := by decide +kernel
theorem dX5_told_24 : decode cX5_told 24 = .ok (.isub, 1) := by decide +kernel
theorem dX5_told_25 : decode cX5_told 25 = .ok (.iaload, 1) := by decide +kernel
theorem dX5_told_26 : decode cX5_told 26 = .ok (.goto 5, 3) := by decide +kernel
theorem dX5_told_29 : decode cX5_told 29 = .ok (.bipush (-2), 2) := by decide +kernel
theorem dX5_told_31 : decode cX5_told 31 = .ok (.ireturn, 1) := by decide +kernel
theorem dX5_told_32 : decode cX5_told 32 = .ok (.iload_n 1, 1) := by decide +kernel
theorem dX5_told_33 : decode cX5_told 33 = .ok (.bipush 30, 2) := by decide +kernel
theorem dX5_told_35 : decode cX5_told 35 = .ok (.if_icmp .lt 28, 3) := by decide +kernel
theorem dX5_told_38 : decode cX5_told 38 = .ok (.iload_n 1, 1) := by decide +kernel
theorem dX5_told_39 : decode cX5_told 39 = .ok (.bipush 30, 2) := by decide +kernel
theorem dX5_told_41 : decode cX5_told 41 = .ok (.isub, 1) := by decide +kernel
theorem dX5_told_42 : decode cX5_told 42 = .ok (.invokestatic 42, 3) := by decide +kernel
theorem dX5_told_45 : decode cX5_told 45 = .ok (.ifCond .eq 15, 3) := by decide +kernel
theorem dX5_told_48 : decode cX5_told 48 = .ok (.aload_n 0, 1) := by decide +kernel
theorem dX5_told_49 : decode cX5_told 49 = .ok (.getfield 16, 3) := by decide +kernel
theorem dX5_told_52 : decode cX5_told 52 = .ok (.iload_n 1, 1) := by decide +kernel
theorem dX5_told_53 : decode cX5_told 53 = .ok (.bipush 30, 2) := by decide +kernel
theorem dX5_told_55 : decode cX5_told 55 = .ok (.isub, 1) := by decide +kernel
theorem dX5_told_56 : decode cX5_told 56 = .ok (.iaload, 1) := by decide +kernel
theorem dX5_told_57 : decode cX5_told 57 = .ok (.goto 5, 3) := by decide +kernel
theorem dX5_told_60 : decode cX5_told 60 = .ok (.bipush (-2), 2) := by decide +kernel
theorem dX5_told_62 : decode cX5_told 62 = .ok (.ireturn, 1) := by decide +kernel
theorem dX5_told_63 : decode cX5_told 63 = .ok (.iload_n 1, 1) := by decide +kernel
theorem dX5_told_64 : decode cX5_told 64 = .ok (.bipush 10, 2) := by decide +kernel
theorem dX5_told_66 : decode cX5_told 66 = .ok (.if_icmp .lt 28, 3) := by decide +kernel
theorem dX5_told_69 : decode cX5_told 69 = .ok (.iload_n 1, 1) := by decide +kernel
theorem dX5_told_70 : decode cX5_told 70 = .ok (.bipush 10, 2) := by decide +kernel
theorem dX5_told_72 : decode cX5_told 72 = .ok (.isub, 1) := by decide +kernel
theorem dX5_told_73 : decode cX5_told 73 = .ok (.invokestatic 42, 3) := by decide +kernel
theorem dX5_told_76 : decode cX5_told 76 = .ok (.ifCond .eq 15, 3) := by decide +kernel
theorem dX5_told_79 : decode cX5_told 79 = .ok (.aload_n 0, 1) := by decide +kernel
theorem dX5_told_80 : decode cX5_told 80 = .ok (.getfield 7, 3) := by decide +kernel
theorem dX5_told_83 : decode cX5_told 83 = .ok (.iload_n 1, 1) := by decide +kernel
theorem dX5_told_84 : decode cX5_told 84 = .ok (.bipush 10, 2) := by decide +kernel
theorem dX5_told_86 : decode cX5_told 86 = .ok (.isub, 1) := by decide +kernel
theorem dX5_told_87 : decode cX5_told 87 = .ok (.iaload, 1) := by decide +kernel
theorem dX5_told_88 : decode cX5_told 88 = .ok (.goto 5, 3) := by decide +kernel
theorem dX5_told_91 : decode cX5_told 91 = .ok (.bipush (-2), 2) := by decide +kernel
theorem dX5_told_93 : decode cX5_told 93 = .ok (.ireturn, 1) := by decide +kernel
theorem dX5_told_94 : decode cX5_told 94 = .ok (.iload_n 1, 1) := by decide +kernel
theorem dX5_told_95 : decode cX5_told 95 = .ok (.tableswitch 67 0 4 #[33, 38, 46, 54, 62], 33) := by decide +kernel
theorem dX5_told_128 : decode cX5_told 128 = .ok (.aload_n 0, 1) := by decide +kernel
theorem dX5_told_129 : decode cX5_told 129 = .ok (.getfield 54, 3) := by decide +kernel
theorem dX5_told_132 : decode cX5_told 132 = .ok (.ireturn, 1) := by decide +kernel
theorem dX5_told_133 : decode cX5_told 133 = .ok (.aload_n 0, 1) := by decide +kernel
theorem dX5_told_134 : decode cX5_told 134 = .ok (.getfield 7, 3) := by decide +kernel
theorem dX5_told_137 : decode cX5_told 137 = .ok (.bipush 14, 2) := by decide +kernel
theorem dX5_told_139 : decode cX5_told 139 = .ok (.iaload, 1) := by decide +kernel
theorem dX5_told_140 : decode cX5_told 140 = .ok (.ireturn, 1) := by decide +kernel
theorem dX5_told_141 : decode cX5_told 141 = .ok (.aload_n 0, 1) := by decide +kernel
theorem dX5_told_142 : decode cX5_told 142 = .ok (.getfield 7, 3) := by decide +kernel
theorem dX5_told_145 : decode cX5_told 145 = .ok (.bipush 12, 2) := by decide +kernel
theorem dX5_told_147 : decode cX5_told 147 = .ok (.iaload, 1) := by decide +kernel
theorem dX5_told_148 : decode cX5_told 148 = .ok (.ireturn, 1) := by decide +kernel
theorem dX5_told_149 : decode cX5_told 149 = .ok (.aload_n 0, 1) := by decide +kernel
theorem dX5_told_150 : decode cX5_told 150 = .ok (.getfield 7, 3) := by decide +kernel
theorem dX5_told_153 : decode cX5_told 153 = .ok (.bipush 13, 2) := by decide +kernel
theorem dX5_told_155 : decode cX5_told 155 = .ok (.iaload, 1) := by decide +kernel
theorem dX5_told_156 : decode cX5_told 156 = .ok (.ireturn, 1) := by decide +kernel
theorem dX5_told_157 : decode cX5_told 157 = .ok (.aload_n 0, 1) := by decide +kernel
theorem dX5_told_158 : decode cX5_told 158 = .ok (.getfield 46, 3) := by decide +kernel
theorem dX5_told_161 : decode cX5_told 161 = .ok (.ireturn, 1) := by decide +kernel
theorem dX5_told_162 : decode cX5_told 162 = .ok (.iload_n 1, 1) := by decide +kernel
theorem dX5_told_163 : decode cX5_told 163 = .ok (.iconst 5, 1) := by decide +kernel
theorem dX5_told_164 : decode cX5_told 164 = .ok (.if_icmp .ne 10, 3) := by decide +kernel
theorem dX5_told_167 : decode cX5_told 167 = .ok (.aload_n 0, 1) := by decide +kernel
theorem dX5_told_168 : decode cX5_told 168 = .ok (.getfield 117, 3) := by decide +kernel
theorem dX5_told_171 : decode cX5_told 171 = .ok (.goto 5, 3) := by decide +kernel
theorem dX5_told_174 : decode cX5_told 174 = .ok (.bipush (-2), 2) := by decide +kernel
theorem dX5_told_176 : decode cX5_told 176 = .ok (.ireturn, 1) := by decide +kernel
theorem dJ6_bitCount_0f7a4_0 : decode cJ6_bitCount_0f7a4 0 = .ok (.iload_n 0, 1) := by decide +kernel
theorem dJ6_bitCount_0f7a4_1 : decode cJ6_bitCount_0f7a4 1 = .ok (.iload_n 0, 1) := by decide +kernel
theorem dJ6_bitCount_0f7a4_2 : decode cJ6_bitCount_0f7a4 2 = .ok (.iconst 1, 1) := by decide +kernel
theorem dJ6_bitCount_0f7a4_3 : decode cJ6_bitCount_0f7a4 3 = .ok (.iushr, 1) := by decide +kernel
theorem dJ6_bitCount_0f7a4_4 : decode cJ6_bitCount_0f7a4 4 = .ok (.ldc_w 265, 3) := by decide +kernel
theorem dJ6_bitCount_0f7a4_7 : decode cJ6_bitCount_0f7a4 7 = .ok (.iand, 1) := by decide +kernel
theorem dJ6_bitCount_0f7a4_8 : decode cJ6_bitCount_0f7a4 8 = .ok (.isub, 1) := by decide +kernel
theorem dJ6_bitCount_0f7a4_9 : decode cJ6_bitCount_0f7a4 9 = .ok (.istore_n 0, 1) := by decide +kernel
theorem dJ6_bitCount_0f7a4_10 : decode cJ6_bitCount_0f7a4 10 = .ok (.iload_n 0, 1) := by decide +kernel
theorem dJ6_bitCount_0f7a4_11 : decode cJ6_bitCount_0f7a4 11 = .ok (.ldc_w 266, 3) := by decide +kernel
theorem dJ6_bitCount_0f7a4_14 : decode cJ6_bitCount_0f7a4 14 = .ok (.iand, 1) := by decide +kernel
theorem dJ6_bitCount_0f7a4_15 : decode cJ6_bitCount_0f7a4 15 = .ok (.iload_n 0, 1) := by decide +kernel
theorem dJ6_bitCount_0f7a4_16 : decode cJ6_bitCount_0f7a4 16 = .ok (.iconst 2, 1) := by decide +kernel
theorem dJ6_bitCount_0f7a4_17 : decode cJ6_bitCount_0f7a4 17 = .ok (.iushr, 1) := by decide +kernel
theorem dJ6_bitCount_0f7a4_18 : decode cJ6_bitCount_0f7a4 18 = .ok (.ldc_w 266, 3) := by decide +kernel
theorem dJ6_bitCount_0f7a4_21 : decode cJ6_bitCount_0f7a4 21 = .ok (.iand, 1) := by decide +kernel
theorem dJ6_bitCount_0f7a4_22 : decode cJ6_bitCount_0f7a4 22 = .ok (.iadd, 1) := by decide +kernel
theorem dJ6_bitCount_0f7a4_23 : decode cJ6_bitCount_0f7a4 23 = .ok (.istore_n 0, 1) := by decide +kernel
theorem dJ6_bitCount_0f7a4_24 : decode cJ6_bitCount_0f7a4 24 = .ok (.iload_n 0, 1) := by decide +kernel
theorem dJ6_bitCount_0f7a4_25 : decode cJ6_bitCount_0f7a4 25 = .ok (.iload_n 0, 1) := by decide +kernel
theorem dJ6_bitCount_0f7a4_26 : decode cJ6_bitCount_0f7a4 26 = .ok (.iconst 4, 1) := by decide +kernel
theorem dJ6_bitCount_0f7a4_27 : decode cJ6_bitCount_0f7a4 27 = .ok (.iushr, 1) := by decide +kernel
theorem dJ6_bitCount_0f7a4_28 : decode cJ6_bitCount_0f7a4 28 = .ok (.iadd, 1) := by decide +kernel
theorem dJ6_bitCount_0f7a4_29 : decode cJ6_bitCount_0f7a4 29 = .ok (.ldc_w 267, 3) := by decide +kernel
theorem dJ6_bitCount_0f7a4_32 : decode cJ6_bitCount_0f7a4 32 = .ok (.iand, 1) := by decide +kernel
theorem dJ6_bitCount_0f7a4_33 : decode cJ6_bitCount_0f7a4 33 = .ok (.istore_n 0, 1) := by decide +kernel
theorem dJ6_bitCount_0f7a4_34 : decode cJ6_bitCount_0f7a4 34 = .ok (.iload_n 0, 1) := by decide +kernel
theorem dJ6_bitCount_0f7a4_35 : decode cJ6_bitCount_0f7a4 35 = .ok (.iload_n 0, 1) := by decide +kernel
theorem dJ6_bitCount_0f7a4_36 : decode cJ6_bitCount_0f7a4 36 = .ok (.bipush 8, 2) := by decide +kernel
theorem dJ6_bitCount_0f7a4_38 : decode cJ6_bitCount_0f7a4 38 = .ok (.iushr, 1) := by decide +kernel
theorem dJ6_bitCount_0f7a4_39 : decode cJ6_bitCount_0f7a4 39 = .ok (.iadd, 1) := by decide +kernel
theorem dJ6_bitCount_0f7a4_40 : decode cJ6_bitCount_0f7a4 40 = .ok (.istore_n 0, 1) := by decide +kernel
theorem dJ6_bitCount_0f7a4_41 : decode cJ6_bitCount_0f7a4 41 = .ok (.iload_n 0, 1) := by decide +kernel
theorem dJ6_bitCount_0f7a4_42 : decode cJ6_bitCount_0f7a4 42 = .ok (.iload_n 0, 1) := by decide +kernel
theorem dJ6_bitCount_0f7a4_43 : decode cJ6_bitCount_0f7a4 43 = .ok (.bipush 16, 2) := by decide +kernel
theorem dJ6_bitCount_0f7a4_45 : decode cJ6_bitCount_0f7a4 45 = .ok (.iushr, 1) := by decide +kernel
theorem dJ6_bitCount_0f7a4_46 : decode cJ6_bitCount_0f7a4 46 = .ok (.iadd, 1) := by decide +kernel
theorem dJ6_bitCount_0f7a4_47 : decode cJ6_bitCount_0f7a4 47 = .ok (.istore_n 0, 1) := by decide +kernel
theorem dJ6_bitCount_0f7a4_48 : decode cJ6_bitCount_0f7a4 48 = .ok (.iload_n 0, 1) := by decide +kernel
theorem dJ6_bitCount_0f7a4_49 : decode cJ6_bitCount_0f7a4 49 = .ok (.bipush 63, 2) := by decide +kernel
theorem dJ6_bitCount_0f7a4_51 : decode cJ6_bitCount_0f7a4 51 = .ok (.iand, 1) := by decide +kernel
theorem dJ6_bitCount_0f7a4_52 : decode cJ6_bitCount_0f7a4 52 = .ok (.ireturn, 1) := by decide +kernel
theorem dJ9_max_7cf53_0 : decode cJ9_max_7cf53 0 = .ok (.iload_n 0, 1) := by decide +kernel
theorem dJ9_max_7cf53_1 : decode cJ9_max_7cf53 1 = .ok (.iload_n 1, 1) := by decide +kernel
theorem dJ9_max_7cf53_2 : decode cJ9_max_7cf53 2 = .ok (.if_icmp .lt 7, 3) := by decide +kernel
theorem dJ9_max_7cf53_5 : decode cJ9_max_7cf53 5 = .ok (.iload_n 0, 1) := by decide +kernel
theorem dJ9_max_7cf53_6 : decode cJ9_max_7cf53 6 = .ok (.goto 4, 3) := by decide +kernel
theorem dJ9_max_7cf53_9 : decode cJ9_max_7cf53 9 = .ok (.iload_n 1, 1) := by decide +kernel
theorem dJ9_max_7cf53_10 : decode cJ9_max_7cf53 10 = .ok (.ireturn, 1) := by decide +kernel
theorem dJ9_max_f86c9_0 : decode cJ9_max_f86c9 0 = .ok (.lload_n 0, 1) := by decide +kernel
theorem dJ9_max_f86c9_1 : decode cJ9_max_f86c9 1 = .ok (.lload_n 2, 1) := by decide +kernel
theorem dJ9_max_f86c9_2 : decode cJ9_max_f86c9 2 = .ok (.lcmp, 1) := by decide +kernel
theorem dJ9_max_f86c9_3 : decode cJ9_max_f86c9 3 = .ok (.ifCond .lt 7, 3) := by decide +kernel
theorem dJ9_max_f86c9_6 : decode cJ9_max_f86c9 6 = .ok (.lload_n 0, 1) := by decide +kernel
theorem dJ9_max_f86c9_7 : decode cJ9_max_f86c9 7 = .ok (.goto 4, 3) := by decide +kernel
theorem dJ9_max_f86c9_10 : decode cJ9_max_f86c9 10 = .ok (.lload_n 2, 1) := by decide +kernel
theorem dJ9_max_f86c9_11 : decode cJ9_max_f86c9 11 = .ok (.lreturn, 1) := by decide +kernel
theorem dJ9_min_7cf53_0 : decode cJ9_min_7cf53 0 = .ok (.iload_n 0, 1) := by decide +kernel
theorem dJ9_min_7cf53_1 : decode cJ9_min_7cf53 1 = .ok (.iload_n 1, 1) := by decide +kernel
theorem dJ9_min_7cf53_2 : decode cJ9_min_7cf53 2 = .ok (.if_icmp .gt 7, 3) := by decide +kernel
theorem dJ9_min_7cf53_5 : decode cJ9_min_7cf53 5 = .ok (.iload_n 0, 1) := by decide +kernel
theorem dJ9_min_7cf53_6 : decode cJ9_min_7cf53 6 = .ok (.goto 4, 3) := by decide +kernel
theorem dJ9_min_7cf53_9 : decode cJ9_min_7cf53 9 = .ok (.iload_n 1, 1) := by decide +kernel
theorem dJ9_min_7cf53_10 : decode cJ9_min_7cf53 10 = .ok (.ireturn, 1) := by decide +kernel
theorem dJ7_fill_53178_0 : decode cJ7_fill_53178 0 = .ok (.iconst 0, 1) := by decide +kernel
theorem dJ7_fill_53178_1 : decode cJ7_fill_53178 1 = .ok (.istore_n 2, 1) := by decide +kernel
theorem dJ7_fill_53178_2 : decode cJ7_fill_53178 2 = .ok (.aload_n 0, 1) := by decide +kernel
theorem dJ7_fill_53178_3 : decode cJ7_fill_53178 3 = .ok (.arraylength, 1) := by decide +kernel
theorem dJ7_fill_53178_4 : decode cJ7_fill_53178 4 = .ok (.istore_n 3, 1) := by decide +kernel
theorem dJ7_fill_53178_5 : decode cJ7_fill_53178 5 = .ok (.iload_n 2, 1) := by decide +kernel
theorem dJ7_fill_53178_6 : decode cJ7_fill_53178 6 = .ok (.iload_n 3, 1) := by decide +kernel
theorem dJ7_fill_53178_7 : decode cJ7_fill_53178 7 = .ok (.if_icmp .ge 13, 3) := by decide +kernel
theorem dJ7_fill_53178_10 : decode cJ7_fill_53178 10 = .ok (.aload_n 0, 1) := by decide +kernel
theorem dJ7_fill_53178_11 : decode cJ7_fill_53178 11 = .ok (.iload_n 2, 1) := by decide +kernel
theorem dJ7_fill_53178_12 : decode cJ7_fill_53178 12 = .ok (.iload_n 1, 1) := by decide +kernel
theorem dJ7_fill_53178_13 : decode cJ7_fill_53178 13 = .ok (.iastore, 1) := by decide +kernel
theorem dJ7_fill_53178_14 : decode cJ7_fill_53178 14 = .ok (.iinc 2 1, 3) := by decide +kernel
theorem dJ7_fill_53178_17 : decode cJ7_fill_53178 17 = .ok (.goto (-12), 3) := by decide +kernel
theorem dJ7_fill_53178_20 : decode cJ7_fill_53178 20 = .ok (.return_, 1) := by decide +kernel
theorem dL_law_0 : decode cL_law 0 = .ok (.new 7, 3) := by decide +kernel
theorem dL_law_3 : decode cL_law 3 = .ok (.dup, 1) := by decide +kernel
theorem dL_law_4 : decode cL_law 4 = .ok (.invokespecial 9, 3) := by decide +kernel
theorem dL_law_7 : decode cL_law 7 = .ok (.astore_n 1, 1) := by decide +kernel
theorem dL_law_8 : decode cL_law 8 = .ok (.new 10, 3) := by decide +kernel
theorem dL_law_11 : decode cL_law 11 = .ok (.dup, 1) := by decide +kernel
theorem dL_law_12 : decode cL_law 12 = .ok (.invokespecial 12, 3) := by decide +kernel
theorem dL_law_15 : decode cL_law 15 = .ok (.astore_n 2, 1) := by decide +kernel
theorem dL_law_16 : decode cL_law 16 = .ok (.iconst 0, 1) := by decide +kernel
theorem dL_law_17 : decode cL_law 17 = .ok (.istore_n 3, 1) := by decide +kernel
theorem dL_law_18 : decode cL_law 18 = .ok (.iload_n 3, 1) := by decide +kernel
theorem dL_law_19 : decode cL_law 19 = .ok (.aload_n 0, 1) := by decide +kernel
theorem dL_law_20 : decode cL_law 20 = .ok (.arraylength, 1) := by decide +kernel
theorem dL_law_21 : decode cL_law 21 = .ok (.iconst 5, 1) := by decide +kernel
theorem dL_law_22 : decode cL_law 22 = .ok (.isub, 1) := by decide +kernel
theorem dL_law_23 : decode cL_law 23 = .ok (.if_icmp .gt 971, 3) := by decide +kernel
theorem dL_law_26 : decode cL_law 26 = .ok (.aload_n 0, 1) := by decide +kernel
theorem dL_law_27 : decode cL_law 27 = .ok (.iload_n 3, 1) := by decide +kernel
theorem dL_law_28 : decode cL_law 28 = .ok (.iaload, 1) := by decide +kernel
theorem dL_law_29 : decode cL_law 29 = .ok (.bipush 31, 2) := by decide +kernel
theorem dL_law_31 : decode cL_law 31 = .ok (.iand, 1) := by decide +kernel
theorem dL_law_32 : decode cL_law 32 = .ok (.tableswitch 956 0 28 #[132, 175, 224, 257, 290, 313, 326, 339, 362, 375, 398, 421, 444, 457, 480, 513, 546, 589, 622, 635, 648, 671, 694, 737, 791, 844, 887, 910, 933], 132) := by decide +kernel
theorem dL_law_164 : decode cL_law 164 = .ok (.aload_n 1, 1) := by decide +kernel
theorem dL_law_165 : decode cL_law 165 = .ok (.aload_n 0, 1) := by decide +kernel
theorem dL_law_166 : decode cL_law 166 = .ok (.iload_n 3, 1) := by decide +kernel
theorem dL_law_167 : decode cL_law 167 = .ok (.iconst 1, 1) := by decide +kernel
theorem dL_law_168 : decode cL_law 168 = .ok (.iadd, 1) := by decide +kernel
theorem dL_law_169 : decode cL_law 169 = .ok (.iaload, 1) := by decide +kernel
theorem dL_law_170 : decode cL_law 170 = .ok (.aload_n 0, 1) := by decide +kernel
theorem dL_law_171 : decode cL_law 171 = .ok (.iload_n 3, 1) := by decide +kernel
theorem dL_law_172 : decode cL_law 172 = .ok (.iconst 2, 1) := by decide +kernel
theorem dL_law_173 : decode cL_law 173 = .ok (.iadd, 1) := by decide +kernel
theorem dL_law_174 : decode cL_law 174 = .ok (.iaload, 1) := by decide +kernel
theorem dL_law_175 : decode cL_law 175 = .ok (.aload_n 0, 1) := by decide +kernel
theorem dL_law_176 : decode cL_law 176 = .ok (.iload_n 3, 1) := by decide +kernel
theorem dL_law_177 : decode cL_law 177 = .ok (.iconst 3, 1) := by decide +kernel
theorem dL_law_178 : decode cL_law 178 = .ok (.iadd, 1) := by decide +kernel
theorem dL_law_179 : decode cL_law 179 = .ok (.iaload, 1) := by decide +kernel
theorem dL_law_180 : decode cL_law 180 = .ok (.invokevirtual 13, 3) := by decide +kernel
theorem dL_law_183 : decode cL_law 183 = .ok (.aload_n 2, 1) := by decide +kernel
theorem dL_law_184 : decode cL_law 184 = .ok (.aload_n 0, 1) := by decide +kernel
theorem dL_law_185 : decode cL_law 185 = .ok (.iload_n 3, 1) := by decide +kernel
theorem dL_law_186 : decode cL_law 186 = .ok (.iconst 1, 1) := by decide +kernel
theorem dL_law_187 : decode cL_law 187 = .ok (.iadd, 1) := by decide +kernel
theorem dL_law_188 : decode cL_law 188 = .ok (.iaload, 1) := by decide +kernel
theorem dL_law_189 : decode cL_law 189 = .ok (.aload_n 0, 1) := by decide +kernel
theorem dL_law_190 : decode cL_law 190 = .ok (.iload_n 3, 1) := by decide +kernel
theorem dL_law_191 : decode cL_law 191 = .ok (.iconst 2, 1) := by decide +kernel
theorem dL_law_192 : decode cL_law 192 = .ok (.iadd, 1) := by decide +kernel
theorem dL_law_193 : decode cL_law 193 = .ok (.iaload, 1) := by decide +kernel
theorem dL_law_194 : decode cL_law 194 = .ok (.aload_n 0, 1) := by decide +kernel
theorem dL_law_195 : decode cL_law 195 = .ok (.iload_n 3, 1) := by decide +kernel
theorem dL_law_196 : decode cL_law 196 = .ok (.iconst 3, 1) := by decide +kernel
theorem dL_law_197 : decode cL_law 197 = .ok (.iadd, 1) := by decide +kernel
theorem dL_law_198 : decode cL_law 198 = .ok (.iaload, 1) := by decide +kernel
theorem dL_law_199 : decode cL_law 199 = .ok (.invokevirtual 17, 3) := by decide +kernel
theorem dL_law_202 : decode cL_law 202 = .ok (.if_icmp .eq 786, 3) := by decide +kernel
theorem dL_law_205 : decode cL_law 205 = .ok (.iconst 0, 1) := by decide +kernel
theorem dL_law_206 : decode cL_law 206 = .ok (.ireturn, 1) := by decide +kernel
theorem dL_law_207 : decode cL_law 207 = .ok (.aload_n 1, 1) := by decide +kernel
theorem dL_law_208 : decode cL_law 208 = .ok (.aload_n 0, 1) := by decide +kernel
theorem dL_law_209 : decode cL_law 209 = .ok (.iload_n 3, 1) := by decide +kernel
theorem dL_law_210 : decode cL_law 210 = .ok (.iconst 1, 1) := by decide +kernel
theorem dL_law_211 : decode cL_law 211 = .ok (.iadd, 1) := by decide +kernel
theorem dL_law_212 : decode cL_law 212 = .ok (.iaload, 1) := by decide +kernel
theorem dL_law_213 : decode cL_law 213 = .ok (.aload_n 0, 1) := by decide +kernel
theorem dL_law_214 : decode cL_law 214 = .ok (.iload_n 3, 1) := by decide +kernel
theorem dL_law_215 : decode cL_law 215 = .ok (.iconst 2, 1) := by decide +kernel
theorem dL_law_216 : decode cL_law 216 = .ok (.iadd, 1) := by decide +kernel
theorem dL_law_217 : decode cL_law 217 = .ok (.iaload, 1) := by decide +kernel
theorem dL_law_218 : decode cL_law 218 = .ok (.ifCond .eq 7, 3) := by decide +kernel
theorem dL_law_221 : decode cL_law 221 = .ok (.iconst 1, 1) := by decide +kernel
theorem dL_law_222 : decode cL_law 222 = .ok (.goto 4, 3) := by decide +kernel
theorem dL_law_225 : decode cL_law 225 = .ok (.iconst 0, 1) := by decide +kernel
theorem dL_law_226 : decode cL_law 226 = .ok (.invokevirtual 18, 3) := by decide +kernel
theorem dL_law_229 : decode cL_law 229 = .ok (.aload_n 2, 1) := by decide +kernel
theorem dL_law_230 : decode cL_law 230 = .ok (.aload_n 0, 1) := by decide +kernel
theorem dL_law_231 : decode cL_law 231 = .ok (.iload_n 3, 1) := by decide +kernel
theorem dL_law_232 : decode cL_law 232 = .ok (.iconst 1, 1) := by decide +kernel
theorem dL_law_233 : decode cL_law 233 = .ok (.iadd, 1) := by decide +kernel
theorem dL_law_234 : decode cL_law 234 = .ok (.iaload, 1) := by decide +kernel
theorem dL_law_235 : decode cL_law 235 = .ok (.aload_n 0, 1) := by decide +kernel
theorem dL_law_236 : decode cL_law 236 = .ok (.iload_n 3, 1) := by decide +kernel
theorem dL_law_237 : decode cL_law 237 = .ok (.iconst 2, 1) := by decide +kernel
theorem dL_law_238 : decode cL_law 238 = .ok (.iadd, 1) := by decide +kernel
theorem dL_law_239 : decode cL_law 239 = .ok (.iaload, 1) := by decide +kernel
theorem dL_law_240 : decode cL_law 240 = .ok (.ifCond .eq 7, 3) := by decide +kernel
theorem dL_law_243 : decode cL_law 243 = .ok (.iconst 1, 1) := by decide +kernel
theorem dL_law_244 : decode cL_law 244 = .ok (.goto 4, 3) := by decide +kernel
theorem dL_law_247 : decode cL_law 247 = .ok (.iconst 0, 1) := by decide +kernel
theorem dL_law_248 : decode cL_law 248 = .ok (.invokevirtual 22, 3) := by decide +kernel
theorem dL_law_251 : decode cL_law 251 = .ok (.if_icmp .eq 737, 3) := by decide +kernel
theorem dL_law_254 : decode cL_law 254 = .ok (.iconst 0, 1) := by decide +kernel
theorem dL_law_255 : decode cL_law 255 = .ok (.ireturn, 1) := by decide +kernel
theorem dL_law_256 : decode cL_law 256 = .ok (.aload_n 1, 1) := by decide +kernel
theorem dL_law_257 : decode cL_law 257 = .ok (.aload_n 0, 1) := by decide +kernel
theorem dL_law_258 : decode cL_law 258 = .ok (.iload_n 3, 1) := by decide +kernel
theorem dL_law_259 : decode cL_law 259 = .ok (.iconst 1, 1) := by decide +kernel
theorem dL_law_260 : decode cL_law 260 = .ok (.iadd, 1) := by decide +kernel
theorem dL_law_261 : decode cL_law 261 = .ok (.iaload, 1) := by decide +kernel
theorem dL_law_262 : decode cL_law 262 = .ok (.aload_n 0, 1) := by decide +kernel
theorem dL_law_263 : decode cL_law 263 = .ok (.iload_n 3, 1) := by decide +kernel
theorem dL_law_264 : decode cL_law 264 = .ok (.iconst 2, 1) := by decide +kernel
theorem dL_law_265 : decode cL_law 265 = .ok (.iadd, 1) := by decide +kernel
theorem dL_law_266 : decode cL_law 266 = .ok (.iaload, 1) := by decide +kernel
theorem dL_law_267 : decode cL_law 267 = .ok (.invokevirtual 23, 3) := by decide +kernel
theorem dL_law_270 : decode cL_law 270 = .ok (.aload_n 2, 1) := by decide +kernel
theorem dL_law_271 : decode cL_law 271 = .ok (.aload_n 0, 1) := by decide +kernel
theorem dL_law_272 : decode cL_law 272 = .ok (.iload_n 3, 1) := by decide +kernel
theorem dL_law_273 : decode cL_law 273 = .ok (.iconst 1, 1) := by decide +kernel
theorem dL_law_274 : decode cL_law 274 = .ok (.iadd, 1) := by decide +kernel
theorem dL_law_275 : decode cL_law 275 = .ok (.iaload, 1) := by decide +kernel
theorem dL_law_276 : decode cL_law 276 = .ok (.aload_n 0, 1) := by decide +kernel
theorem dL_law_277 : decode cL_law 277 = .ok (.iload_n 3, 1) := by decide +kernel
theorem dL_law_278 : decode cL_law 278 = .ok (.iconst 2, 1) := by decide +kernel
theorem dL_law_279 : decode cL_law 279 = .ok (.iadd, 1) := by decide +kernel
theorem dL_law_280 : decode cL_law 280 = .ok (.iaload, 1) := by decide +kernel
theorem dL_law_281 : decode cL_law 281 = .ok (.invokevirtual 27, 3) := by decide +kernel
theorem dL_law_284 : decode cL_law 284 = .ok (.if_icmp .eq 704, 3) := by decide +kernel
theorem dL_law_287 : decode cL_law 287 = .ok (.iconst 0, 1) := by decide +kernel
theorem dL_law_288 : decode cL_law 288 = .ok (.ireturn, 1) := by decide +kernel
theorem dL_law_289 : decode cL_law 289 = .ok (.aload_n 1, 1) := by decide +kernel
theorem dL_law_290 : decode cL_law 290 = .ok (.aload_n 0, 1) := by decide +kernel
theorem dL_law_291 : decode cL_law 291 = .ok (.iload_n 3, 1) := by decide +kernel
theorem dL_law_292 : decode cL_law 292 = .ok (.iconst 1, 1) := by decide +kernel
theorem dL_law_293 : decode cL_law 293 = .ok (.iadd, 1) := by decide +kernel
theorem dL_law_294 : decode cL_law 294 = .ok (.iaload, 1) := by decide +kernel
theorem dL_law_295 : decode cL_law 295 = .ok (.aload_n 0, 1) := by decide +kernel
theorem dL_law_296 : decode cL_law 296 = .ok (.iload_n 3, 1) := by decide +kernel
theorem dL_law_297 : decode cL_law 297 = .ok (.iconst 2, 1) := by decide +kernel
theorem dL_law_298 : decode cL_law 298 = .ok (.iadd, 1) := by decide +kernel
theorem dL_law_299 : decode cL_law 299 = .ok (.iaload, 1) := by decide +kernel
theorem dL_law_300 : decode cL_law 300 = .ok (.invokevirtual 28, 3) := by decide +kernel
theorem dL_law_303 : decode cL_law 303 = .ok (.aload_n 2, 1) := by decide +kernel
theorem dL_law_304 : decode cL_law 304 = .ok (.aload_n 0, 1) := by decide +kernel
theorem dL_law_305 : decode cL_law 305 = .ok (.iload_n 3, 1) := by decide +kernel
theorem dL_law_306 : decode cL_law 306 = .ok (.iconst 1, 1) := by decide +kernel
theorem dL_law_307 : decode cL_law 307 = .ok (.iadd, 1) := by decide +kernel
theorem dL_law_308 : decode cL_law 308 = .ok (.iaload, 1) := by decide +kernel
theorem dL_law_309 : decode cL_law 309 = .ok (.aload_n 0, 1) := by decide +kernel
theorem dL_law_310 : decode cL_law 310 = .ok (.iload_n 3, 1) := by decide +kernel
theorem dL_law_311 : decode cL_law 311 = .ok (.iconst 2, 1) := by decide +kernel
theorem dL_law_312 : decode cL_law 312 = .ok (.iadd, 1) := by decide +kernel
theorem dL_law_313 : decode cL_law 313 = .ok (.iaload, 1) := by decide +kernel
theorem dL_law_314 : decode cL_law 314 = .ok (.invokevirtual 31, 3) := by decide +kernel
theorem dL_law_317 : decode cL_law 317 = .ok (.if_icmp .eq 671, 3) := by decide +kernel
theorem dL_law_320 : decode cL_law 320 = .ok (.iconst 0, 1) := by decide +kernel
theorem dL_law_321 : decode cL_law 321 = .ok (.ireturn, 1) := by decide +kernel
theorem dL_law_322 : decode cL_law 322 = .ok (.aload_n 1, 1) := by decide +kernel
theorem dL_law_323 : decode cL_law 323 = .ok (.aload_n 0, 1) := by decide +kernel
theorem dL_law_324 : decode cL_law 324 = .ok (.iload_n 3, 1) := by decide +kernel
theorem dL_law_325 : decode cL_law 325 = .ok (.iconst 1, 1) := by decide +kernel
theorem dL_law_326 : decode cL_law 326 = .ok (.iadd, 1) := by decide +kernel
theorem dL_law_327 : decode cL_law 327 = .ok (.iaload, 1) := by decide +kernel
theorem dL_law_328 : decode cL_law 328 = .ok (.invokevirtual 32, 3) := by decide +kernel
theorem dL_law_331 : decode cL_law 331 = .ok (.aload_n 2, 1) := by decide +kernel
theorem dL_law_332 : decode cL_law 332 = .ok (.aload_n 0, 1) := by decide +kernel
theorem dL_law_333 : decode cL_law 333 = .ok (.iload_n 3, 1) := by decide +kernel
theorem dL_law_334 : decode cL_law 334 = .ok (.iconst 1, 1) := by decide +kernel
theorem dL_law_335 : decode cL_law 335 = .ok (.iadd, 1) := by decide +kernel
theorem dL_law_336 : decode cL_law 336 = .ok (.iaload, 1) := by decide +kernel
theorem dL_law_337 : decode cL_law 337 = .ok (.invokevirtual 36, 3) := by decide +kernel
theorem dL_law_340 : decode cL_law 340 = .ok (.if_icmp .eq 648, 3) := by decide +kernel
theorem dL_law_343 : decode cL_law 343 = .ok (.iconst 0, 1) := by decide +kernel
theorem dL_law_344 : decode cL_law 344 = .ok (.ireturn, 1) := by decide +kernel
theorem dL_law_345 : decode cL_law 345 = .ok (.aload_n 1, 1) := by decide +kernel
theorem dL_law_346 : decode cL_law 346 = .ok (.invokevirtual 37, 3) := by decide +kernel
theorem dL_law_349 : decode cL_law 349 = .ok (.aload_n 2, 1) := by decide +kernel
theorem dL_law_350 : decode cL_law 350 = .ok (.invokevirtual 41, 3) := by decide +kernel
theorem dL_law_353 : decode cL_law 353 = .ok (.if_icmp .eq 635, 3) := by decide +kernel
theorem dL_law_356 : decode cL_law 356 = .ok (.iconst 0, 1) := by decide +kernel
theorem dL_law_357 : decode cL_law 357 = .ok (.ireturn, 1) := by decide +kernel
theorem dL_law_358 : decode cL_law 358 = .ok (.aload_n 1, 1) := by decide +kernel
theorem dL_law_359 : decode cL_law 359 = .ok (.invokevirtual 42, 3) := by decide +kernel
theorem dL_law_362 : decode cL_law 362 = .ok (.aload_n 2, 1) := by decide +kernel
theorem dL_law_363 : decode cL_law 363 = .ok (.invokevirtual 45, 3) := by decide +kernel
theorem dL_law_366 : decode cL_law 366 = .ok (.if_icmp .eq 622, 3) := by decide +kernel
theorem dL_law_369 : decode cL_law 369 = .ok (.iconst 0, 1) := by decide +kernel
theorem dL_law_370 : decode cL_law 370 = .ok (.ireturn, 1) := by decide +kernel
theorem dL_law_371 : decode cL_law 371 = .ok (.aload_n 1, 1) := by decide +kernel
theorem dL_law_372 : decode cL_law 372 = .ok (.aload_n 0, 1) := by decide +kernel
theorem dL_law_373 : decode cL_law 373 = .ok (.iload_n 3, 1) := by decide +kernel
theorem dL_law_374 : decode cL_law 374 = .ok (.iconst 1, 1) := by decide +kernel
theorem dL_law_375 : decode cL_law 375 = .ok (.iadd, 1) := by decide +kernel
theorem dL_law_376 : decode cL_law 376 = .ok (.iaload, 1) := by decide +kernel
theorem dL_law_377 : decode cL_law 377 = .ok (.invokevirtual 46, 3) := by decide +kernel
theorem dL_law_380 : decode cL_law 380 = .ok (.aload_n 2, 1) := by decide +kernel
theorem dL_law_381 : decode cL_law 381 = .ok (.aload_n 0, 1) := by decide +kernel
theorem dL_law_382 : decode cL_law 382 = .ok (.iload_n 3, 1) := by decide +kernel
theorem dL_law_383 : decode cL_law 383 = .ok (.iconst 1, 1) := by decide +kernel
theorem dL_law_384 : decode cL_law 384 = .ok (.iadd, 1) := by decide +kernel
theorem dL_law_385 : decode cL_law 385 = .ok (.iaload, 1) := by decide +kernel
theorem dL_law_386 : decode cL_law 386 = .ok (.invokevirtual 49, 3) := by decide +kernel
theorem dL_law_389 : decode cL_law 389 = .ok (.if_icmp .eq 599, 3) := by decide +kernel
theorem dL_law_392 : decode cL_law 392 = .ok (.iconst 0, 1) := by decide +kernel
theorem dL_law_393 : decode cL_law 393 = .ok (.ireturn, 1) := by decide +kernel
theorem dL_law_394 : decode cL_law 394 = .ok (.aload_n 1, 1) := by decide +kernel
theorem dL_law_395 : decode cL_law 395 = .ok (.invokevirtual 50, 3) := by decide +kernel
theorem dL_law_398 : decode cL_law 398 = .ok (.aload_n 2, 1) := by decide +kernel
theorem dL_law_399 : decode cL_law 399 = .ok (.invokevirtual 53, 3) := by decide +kernel
theorem dL_law_402 : decode cL_law 402 = .ok (.if_icmp .eq 586, 3) := by decide +kernel
theorem dL_law_405 : decode cL_law 405 = .ok (.iconst 0, 1) := by decide +kernel
theorem dL_law_406 : decode cL_law 406 = .ok (.ireturn, 1) := by decide +kernel
theorem dL_law_407 : decode cL_law 407 = .ok (.aload_n 1, 1) := by decide +kernel
theorem dL_law_408 : decode cL_law 408 = .ok (.aload_n 0, 1) := by decide +kernel
theorem dL_law_409 : decode cL_law 409 = .ok (.iload_n 3, 1) := by decide +kernel
theorem dL_law_410 : decode cL_law 410 = .ok (.iconst 1, 1) := by decide +kernel
theorem dL_law_411 : decode cL_law 411 = .ok (.iadd, 1) := by decide +kernel
theorem dL_law_412 : decode cL_law 412 = .ok (.iaload, 1) := by decide +kernel
theorem dL_law_413 : decode cL_law 413 = .ok (.invokevirtual 54, 3) := by decide +kernel
theorem dL_law_416 : decode cL_law 416 = .ok (.aload_n 2, 1) := by decide +kernel
theorem dL_law_417 : decode cL_law 417 = .ok (.aload_n 0, 1) := by decide +kernel
theorem dL_law_418 : decode cL_law 418 = .ok (.iload_n 3, 1) := by decide +kernel
theorem dL_law_419 : decode cL_law 419 = .ok (.iconst 1, 1) := by decide +kernel
theorem dL_law_420 : decode cL_law 420 = .ok (.iadd, 1) := by decide +kernel
theorem dL_law_421 : decode cL_law 421 = .ok (.iaload, 1) := by decide +kernel
theorem dL_law_422 : decode cL_law 422 = .ok (.invokevirtual 57, 3) := by decide +kernel
theorem dL_law_425 : decode cL_law 425 = .ok (.if_icmp .eq 563, 3) := by decide +kernel
theorem dL_law_428 : decode cL_law 428 = .ok (.iconst 0, 1) := by decide +kernel
theorem dL_law_429 : decode cL_law 429 = .ok (.ireturn, 1) := by decide +kernel
theorem dL_law_430 : decode cL_law 430 = .ok (.aload_n 1, 1) := by decide +kernel
theorem dL_law_431 : decode cL_law 431 = .ok (.aload_n 0, 1) := by decide +kernel
theorem dL_law_432 : decode cL_law 432 = .ok (.iload_n 3, 1) := by decide +kernel
theorem dL_law_433 : decode cL_law 433 = .ok (.iconst 1, 1) := by decide +kernel
theorem dL_law_434 : decode cL_law 434 = .ok (.iadd, 1) := by decide +kernel
theorem dL_law_435 : decode cL_law 435 = .ok (.iaload, 1) := by decide +kernel
theorem dL_law_436 : decode cL_law 436 = .ok (.invokevirtual 58, 3) := by decide +kernel
theorem dL_law_439 : decode cL_law 439 = .ok (.aload_n 2, 1) := by decide +kernel
theorem dL_law_440 : decode cL_law 440 = .ok (.aload_n 0, 1) := by decide +kernel
theorem dL_law_441 : decode cL_law 441 = .ok (.iload_n 3, 1) := by decide +kernel
theorem dL_law_442 : decode cL_law 442 = .ok (.iconst 1, 1) := by decide +kernel
theorem dL_law_443 : decode cL_law 443 = .ok (.iadd, 1) := by decide +kernel
theorem dL_law_444 : decode cL_law 444 = .ok (.iaload, 1) := by decide +kernel
theorem dL_law_445 : decode cL_law 445 = .ok (.invokevirtual 61, 3) := by decide +kernel
theorem dL_law_448 : decode cL_law 448 = .ok (.if_icmp .eq 540, 3) := by decide +kernel
theorem dL_law_451 : decode cL_law 451 = .ok (.iconst 0, 1) := by decide +kernel
theorem dL_law_452 : decode cL_law 452 = .ok (.ireturn, 1) := by decide +kernel
theorem dL_law_453 : decode cL_law 453 = .ok (.aload_n 1, 1) := by decide +kernel
theorem dL_law_454 : decode cL_law 454 = .ok (.aload_n 0, 1) := by decide +kernel
theorem dL_law_455 : decode cL_law 455 = .ok (.iload_n 3, 1) := by decide +kernel
theorem dL_law_456 : decode cL_law 456 = .ok (.iconst 1, 1) := by decide +kernel
theorem dL_law_457 : decode cL_law 457 = .ok (.iadd, 1) := by decide +kernel
theorem dL_law_458 : decode cL_law 458 = .ok (.iaload, 1) := by decide +kernel
theorem dL_law_459 : decode cL_law 459 = .ok (.invokevirtual 62, 3) := by decide +kernel
theorem dL_law_462 : decode cL_law 462 = .ok (.aload_n 2, 1) := by decide +kernel
theorem dL_law_463 : decode cL_law 463 = .ok (.aload_n 0, 1) := by decide +kernel
theorem dL_law_464 : decode cL_law 464 = .ok (.iload_n 3, 1) := by decide +kernel
theorem dL_law_465 : decode cL_law 465 = .ok (.iconst 1, 1) := by decide +kernel
theorem dL_law_466 : decode cL_law 466 = .ok (.iadd, 1) := by decide +kernel
theorem dL_law_467 : decode cL_law 467 = .ok (.iaload, 1) := by decide +kernel
theorem dL_law_468 : decode cL_law 468 = .ok (.invokevirtual 65, 3) := by decide +kernel
theorem dL_law_471 : decode cL_law 471 = .ok (.if_icmp .eq 517, 3) := by decide +kernel
theorem dL_law_474 : decode cL_law 474 = .ok (.iconst 0, 1) := by decide +kernel
theorem dL_law_475 : decode cL_law 475 = .ok (.ireturn, 1) := by decide +kernel
theorem dL_law_476 : decode cL_law 476 = .ok (.aload_n 1, 1) := by decide +kernel
theorem dL_law_477 : decode cL_law 477 = .ok (.invokevirtual 66, 3) := by decide +kernel
theorem dL_law_480 : decode cL_law 480 = .ok (.aload_n 2, 1) := by decide +kernel
theorem dL_law_481 : decode cL_law 481 = .ok (.invokevirtual 69, 3) := by decide +kernel
theorem dL_law_484 : decode cL_law 484 = .ok (.if_icmp .eq 504, 3) := by decide +kernel
theorem dL_law_487 : decode cL_law 487 = .ok (.iconst 0, 1) := by decide +kernel
theorem dL_law_488 : decode cL_law 488 = .ok (.ireturn, 1) := by decide +kernel
theorem dL_law_489 : decode cL_law 489 = .ok (.aload_n 1, 1) := by decide +kernel
theorem dL_law_490 : decode cL_law 490 = .ok (.aload_n 0, 1) := by decide +kernel
theorem dL_law_491 : decode cL_law 491 = .ok (.iload_n 3, 1) := by decide +kernel
theorem dL_law_492 : decode cL_law 492 = .ok (.iconst 1, 1) := by decide +kernel
theorem dL_law_493 : decode cL_law 493 = .ok (.iadd, 1) := by decide +kernel
theorem dL_law_494 : decode cL_law 494 = .ok (.iaload, 1) := by decide +kernel
theorem dL_law_495 : decode cL_law 495 = .ok (.invokevirtual 70, 3) := by decide +kernel
theorem dL_law_498 : decode cL_law 498 = .ok (.aload_n 2, 1) := by decide +kernel
theorem dL_law_499 : decode cL_law 499 = .ok (.aload_n 0, 1) := by decide +kernel
theorem dL_law_500 : decode cL_law 500 = .ok (.iload_n 3, 1) := by decide +kernel
theorem dL_law_501 : decode cL_law 501 = .ok (.iconst 1, 1) := by decide +kernel
theorem dL_law_502 : decode cL_law 502 = .ok (.iadd, 1) := by decide +kernel
theorem dL_law_503 : decode cL_law 503 = .ok (.iaload, 1) := by decide +kernel
theorem dL_law_504 : decode cL_law 504 = .ok (.invokevirtual 73, 3) := by decide +kernel
theorem dL_law_507 : decode cL_law 507 = .ok (.if_icmp .eq 481, 3) := by decide +kernel
theorem dL_law_510 : decode cL_law 510 = .ok (.iconst 0, 1) := by decide +kernel
theorem dL_law_511 : decode cL_law 511 = .ok (.ireturn, 1) := by decide +kernel
theorem dL_law_512 : decode cL_law 512 = .ok (.aload_n 1, 1) := by decide +kernel
theorem dL_law_513 : decode cL_law 513 = .ok (.aload_n 0, 1) := by decide +kernel
theorem dL_law_514 : decode cL_law 514 = .ok (.iload_n 3, 1) := by decide +kernel
theorem dL_law_515 : decode cL_law 515 = .ok (.iconst 1, 1) := by decide +kernel
theorem dL_law_516 : decode cL_law 516 = .ok (.iadd, 1) := by decide +kernel
theorem dL_law_517 : decode cL_law 517 = .ok (.iaload, 1) := by decide +kernel
theorem dL_law_518 : decode cL_law 518 = .ok (.aload_n 0, 1) := by decide +kernel
theorem dL_law_519 : decode cL_law 519 = .ok (.iload_n 3, 1) := by decide +kernel
theorem dL_law_520 : decode cL_law 520 = .ok (.iconst 2, 1) := by decide +kernel
theorem dL_law_521 : decode cL_law 521 = .ok (.iadd, 1) := by decide +kernel
theorem dL_law_522 : decode cL_law 522 = .ok (.iaload, 1) := by decide +kernel
theorem dL_law_523 : decode cL_law 523 = .ok (.invokevirtual 74, 3) := by decide +kernel
theorem dL_law_526 : decode cL_law 526 = .ok (.aload_n 2, 1) := by decide +kernel
theorem dL_law_527 : decode cL_law 527 = .ok (.aload_n 0, 1) := by decide +kernel
theorem dL_law_528 : decode cL_law 528 = .ok (.iload_n 3, 1) := by decide +kernel
theorem dL_law_529 : decode cL_law 529 = .ok (.iconst 1, 1) := by decide +kernel
theorem dL_law_530 : decode cL_law 530 = .ok (.iadd, 1) := by decide +kernel
theorem dL_law_531 : decode cL_law 531 = .ok (.iaload, 1) := by decide +kernel
theorem dL_law_532 : decode cL_law 532 = .ok (.aload_n 0, 1) := by decide +kernel
theorem dL_law_533 : decode cL_law 533 = .ok (.iload_n 3, 1) := by decide +kernel
theorem dL_law_534 : decode cL_law 534 = .ok (.iconst 2, 1) := by decide +kernel
theorem dL_law_535 : decode cL_law 535 = .ok (.iadd, 1) := by decide +kernel
theorem dL_law_536 : decode cL_law 536 = .ok (.iaload, 1) := by decide +kernel
theorem dL_law_537 : decode cL_law 537 = .ok (.invokevirtual 77, 3) := by decide +kernel
theorem dL_law_540 : decode cL_law 540 = .ok (.if_icmp .eq 448, 3) := by decide +kernel
theorem dL_law_543 : decode cL_law 543 = .ok (.iconst 0, 1) := by decide +kernel
theorem dL_law_544 : decode cL_law 544 = .ok (.ireturn, 1) := by decide +kernel
theorem dL_law_545 : decode cL_law 545 = .ok (.aload_n 1, 1) := by decide +kernel
theorem dL_law_546 : decode cL_law 546 = .ok (.aload_n 0, 1) := by decide +kernel
theorem dL_law_547 : decode cL_law 547 = .ok (.iload_n 3, 1) := by decide +kernel
theorem dL_law_548 : decode cL_law 548 = .ok (.iconst 1, 1) := by decide +kernel
theorem dL_law_549 : decode cL_law 549 = .ok (.iadd, 1) := by decide +kernel
theorem dL_law_550 : decode cL_law 550 = .ok (.iaload, 1) := by decide +kernel
theorem dL_law_551 : decode cL_law 551 = .ok (.aload_n 0, 1) := by decide +kernel
theorem dL_law_552 : decode cL_law 552 = .ok (.iload_n 3, 1) := by decide +kernel
theorem dL_law_553 : decode cL_law 553 = .ok (.iconst 2, 1) := by decide +kernel
theorem dL_law_554 : decode cL_law 554 = .ok (.iadd, 1) := by decide +kernel
theorem dL_law_555 : decode cL_law 555 = .ok (.iaload, 1) := by decide +kernel
theorem dL_law_556 : decode cL_law 556 = .ok (.invokevirtual 78, 3) := by decide +kernel
theorem dL_law_559 : decode cL_law 559 = .ok (.aload_n 2, 1) := by decide +kernel
theorem dL_law_560 : decode cL_law 560 = .ok (.aload_n 0, 1) := by decide +kernel
theorem dL_law_561 : decode cL_law 561 = .ok (.iload_n 3, 1) := by decide +kernel
theorem dL_law_562 : decode cL_law 562 = .ok (.iconst 1, 1) := by decide +kernel
theorem dL_law_563 : decode cL_law 563 = .ok (.iadd, 1) := by decide +kernel
theorem dL_law_564 : decode cL_law 564 = .ok (.iaload, 1) := by decide +kernel
theorem dL_law_565 : decode cL_law 565 = .ok (.aload_n 0, 1) := by decide +kernel
theorem dL_law_566 : decode cL_law 566 = .ok (.iload_n 3, 1) := by decide +kernel
theorem dL_law_567 : decode cL_law 567 = .ok (.iconst 2, 1) := by decide +kernel
theorem dL_law_568 : decode cL_law 568 = .ok (.iadd, 1) := by decide +kernel
theorem dL_law_569 : decode cL_law 569 = .ok (.iaload, 1) := by decide +kernel
theorem dL_law_570 : decode cL_law 570 = .ok (.invokevirtual 81, 3) := by decide +kernel
theorem dL_law_573 : decode cL_law 573 = .ok (.if_icmp .eq 415, 3) := by decide +kernel
theorem dL_law_576 : decode cL_law 576 = .ok (.iconst 0, 1) := by decide +kernel
theorem dL_law_577 : decode cL_law 577 = .ok (.ireturn, 1) := by decide +kernel
theorem dL_law_578 : decode cL_law 578 = .ok (.aload_n 1, 1) := by decide +kernel
theorem dL_law_579 : decode cL_law 579 = .ok (.aload_n 0, 1) := by decide +kernel
theorem dL_law_580 : decode cL_law 580 = .ok (.iload_n 3, 1) := by decide +kernel
theorem dL_law_581 : decode cL_law 581 = .ok (.iconst 1, 1) := by decide +kernel
theorem dL_law_582 : decode cL_law 582 = .ok (.iadd, 1) := by decide +kernel
theorem dL_law_583 : decode cL_law 583 = .ok (.iaload, 1) := by decide +kernel
theorem dL_law_584 : decode cL_law 584 = .ok (.aload_n 0, 1) := by decide +kernel
theorem dL_law_585 : decode cL_law 585 = .ok (.iload_n 3, 1) := by decide +kernel
theorem dL_law_586 : decode cL_law 586 = .ok (.iconst 2, 1) := by decide +kernel
theorem dL_law_587 : decode cL_law 587 = .ok (.iadd, 1) := by decide +kernel
theorem dL_law_588 : decode cL_law 588 = .ok (.iaload, 1) := by decide +kernel
theorem dL_law_589 : decode cL_law 589 = .ok (.aload_n 0, 1) := by decide +kernel
theorem dL_law_590 : decode cL_law 590 = .ok (.iload_n 3, 1) := by decide +kernel
theorem dL_law_591 : decode cL_law 591 = .ok (.iconst 3, 1) := by decide +kernel
theorem dL_law_592 : decode cL_law 592 = .ok (.iadd, 1) := by decide +kernel
theorem dL_law_593 : decode cL_law 593 = .ok (.iaload, 1) := by decide +kernel
theorem dL_law_594 : decode cL_law 594 = .ok (.invokevirtual 82, 3) := by decide +kernel
theorem dL_law_597 : decode cL_law 597 = .ok (.aload_n 2, 1) := by decide +kernel
theorem dL_law_598 : decode cL_law 598 = .ok (.aload_n 0, 1) := by decide +kernel
theorem dL_law_599 : decode cL_law 599 = .ok (.iload_n 3, 1) := by decide +kernel
theorem dL_law_600 : decode cL_law 600 = .ok (.iconst 1, 1) := by decide +kernel
theorem dL_law_601 : decode cL_law 601 = .ok (.iadd, 1) := by decide +kernel
theorem dL_law_602 : decode cL_law 602 = .ok (.iaload, 1) := by decide +kernel
theorem dL_law_603 : decode cL_law 603 = .ok (.aload_n 0, 1) := by decide +kernel
theorem dL_law_604 : decode cL_law 604 = .ok (.iload_n 3, 1) := by decide +kernel
theorem dL_law_605 : decode cL_law 605 = .ok (.iconst 2, 1) := by decide +kernel
theorem dL_law_606 : decode cL_law 606 = .ok (.iadd, 1) := by decide +kernel
theorem dL_law_607 : decode cL_law 607 = .ok (.iaload, 1) := by decide +kernel
theorem dL_law_608 : decode cL_law 608 = .ok (.aload_n 0, 1) := by decide +kernel
theorem dL_law_609 : decode cL_law 609 = .ok (.iload_n 3, 1) := by decide +kernel
theorem dL_law_610 : decode cL_law 610 = .ok (.iconst 3, 1) := by decide +kernel
theorem dL_law_611 : decode cL_law 611 = .ok (.iadd, 1) := by decide +kernel
theorem dL_law_612 : decode cL_law 612 = .ok (.iaload, 1) := by decide +kernel
theorem dL_law_613 : decode cL_law 613 = .ok (.invokevirtual 85, 3) := by decide +kernel
theorem dL_law_616 : decode cL_law 616 = .ok (.if_icmp .eq 372, 3) := by decide +kernel
theorem dL_law_619 : decode cL_law 619 = .ok (.iconst 0, 1) := by decide +kernel
theorem dL_law_620 : decode cL_law 620 = .ok (.ireturn, 1) := by decide +kernel
theorem dL_law_621 : decode cL_law 621 = .ok (.aload_n 1, 1) := by decide +kernel
theorem dL_law_622 : decode cL_law 622 = .ok (.aload_n 0, 1) := by decide +kernel
theorem dL_law_623 : decode cL_law 623 = .ok (.iload_n 3, 1) := by decide +kernel
theorem dL_law_624 : decode cL_law 624 = .ok (.iconst 1, 1) := by decide +kernel
theorem dL_law_625 : decode cL_law 625 = .ok (.iadd, 1) := by decide +kernel
theorem dL_law_626 : decode cL_law 626 = .ok (.iaload, 1) := by decide +kernel
theorem dL_law_627 : decode cL_law 627 = .ok (.aload_n 0, 1) := by decide +kernel
theorem dL_law_628 : decode cL_law 628 = .ok (.iload_n 3, 1) := by decide +kernel
theorem dL_law_629 : decode cL_law 629 = .ok (.iconst 2, 1) := by decide +kernel
theorem dL_law_630 : decode cL_law 630 = .ok (.iadd, 1) := by decide +kernel
theorem dL_law_631 : decode cL_law 631 = .ok (.iaload, 1) := by decide +kernel
theorem dL_law_632 : decode cL_law 632 = .ok (.invokevirtual 86, 3) := by decide +kernel
theorem dL_law_635 : decode cL_law 635 = .ok (.aload_n 2, 1) := by decide +kernel
theorem dL_law_636 : decode cL_law 636 = .ok (.aload_n 0, 1) := by decide +kernel
theorem dL_law_637 : decode cL_law 637 = .ok (.iload_n 3, 1) := by decide +kernel
theorem dL_law_638 : decode cL_law 638 = .ok (.iconst 1, 1) := by decide +kernel
theorem dL_law_639 : decode cL_law 639 = .ok (.iadd, 1) := by decide +kernel
theorem dL_law_640 : decode cL_law 640 = .ok (.iaload, 1) := by decide +kernel
theorem dL_law_641 : decode cL_law 641 = .ok (.aload_n 0, 1) := by decide +kernel
theorem dL_law_642 : decode cL_law 642 = .ok (.iload_n 3, 1) := by decide +kernel
theorem dL_law_643 : decode cL_law 643 = .ok (.iconst 2, 1) := by decide +kernel
theorem dL_law_644 : decode cL_law 644 = .ok (.iadd, 1) := by decide +kernel
theorem dL_law_645 : decode cL_law 645 = .ok (.iaload, 1) := by decide +kernel
theorem dL_law_646 : decode cL_law 646 = .ok (.invokevirtual 89, 3) := by decide +kernel
theorem dL_law_649 : decode cL_law 649 = .ok (.if_icmp .eq 339, 3) := by decide +kernel
theorem dL_law_652 : decode cL_law 652 = .ok (.iconst 0, 1) := by decide +kernel
theorem dL_law_653 : decode cL_law 653 = .ok (.ireturn, 1) := by decide +kernel
theorem dL_law_654 : decode cL_law 654 = .ok (.aload_n 1, 1) := by decide +kernel
theorem dL_law_655 : decode cL_law 655 = .ok (.invokevirtual 90, 3) := by decide +kernel
theorem dL_law_658 : decode cL_law 658 = .ok (.aload_n 2, 1) := by decide +kernel
theorem dL_law_659 : decode cL_law 659 = .ok (.invokevirtual 93, 3) := by decide +kernel
theorem dL_law_662 : decode cL_law 662 = .ok (.if_icmp .eq 326, 3) := by decide +kernel
theorem dL_law_665 : decode cL_law 665 = .ok (.iconst 0, 1) := by decide +kernel
theorem dL_law_666 : decode cL_law 666 = .ok (.ireturn, 1) := by decide +kernel
theorem dL_law_667 : decode cL_law 667 = .ok (.aload_n 1, 1) := by decide +kernel
theorem dL_law_668 : decode cL_law 668 = .ok (.invokevirtual 94, 3) := by decide +kernel
theorem dL_law_671 : decode cL_law 671 = .ok (.aload_n 2, 1) := by decide +kernel
theorem dL_law_672 : decode cL_law 672 = .ok (.invokevirtual 97, 3) := by decide +kernel
theorem dL_law_675 : decode cL_law 675 = .ok (.if_icmp .eq 313, 3) := by decide +kernel
theorem dL_law_678 : decode cL_law 678 = .ok (.iconst 0, 1) := by decide +kernel
theorem dL_law_679 : decode cL_law 679 = .ok (.ireturn, 1) := by decide +kernel
theorem dL_law_680 : decode cL_law 680 = .ok (.aload_n 1, 1) := by decide +kernel
theorem dL_law_681 : decode cL_law 681 = .ok (.aload_n 0, 1) := by decide +kernel
theorem dL_law_682 : decode cL_law 682 = .ok (.iload_n 3, 1) := by decide +kernel
theorem dL_law_683 : decode cL_law 683 = .ok (.iconst 1, 1) := by decide +kernel
theorem dL_law_684 : decode cL_law 684 = .ok (.iadd, 1) := by decide +kernel
theorem dL_law_685 : decode cL_law 685 = .ok (.iaload, 1) := by decide +kernel
theorem dL_law_686 : decode cL_law 686 = .ok (.invokevirtual 98, 3) := by decide +kernel
theorem dL_law_689 : decode cL_law 689 = .ok (.aload_n 2, 1) := by decide +kernel
theorem dL_law_690 : decode cL_law 690 = .ok (.aload_n 0, 1) := by decide +kernel
theorem dL_law_691 : decode cL_law 691 = .ok (.iload_n 3, 1) := by decide +kernel
theorem dL_law_692 : decode cL_law 692 = .ok (.iconst 1, 1) := by decide +kernel
theorem dL_law_693 : decode cL_law 693 = .ok (.iadd, 1) := by decide +kernel
theorem dL_law_694 : decode cL_law 694 = .ok (.iaload, 1) := by decide +kernel
theorem dL_law_695 : decode cL_law 695 = .ok (.invokevirtual 101, 3) := by decide +kernel
theorem dL_law_698 : decode cL_law 698 = .ok (.if_icmp .eq 290, 3) := by decide +kernel
theorem dL_law_701 : decode cL_law 701 = .ok (.iconst 0, 1) := by decide +kernel
theorem dL_law_702 : decode cL_law 702 = .ok (.ireturn, 1) := by decide +kernel
theorem dL_law_703 : decode cL_law 703 = .ok (.aload_n 1, 1) := by decide +kernel
theorem dL_law_704 : decode cL_law 704 = .ok (.aload_n 0, 1) := by decide +kernel
theorem dL_law_705 : decode cL_law 705 = .ok (.iload_n 3, 1) := by decide +kernel
theorem dL_law_706 : decode cL_law 706 = .ok (.iconst 1, 1) := by decide +kernel
theorem dL_law_707 : decode cL_law 707 = .ok (.iadd, 1) := by decide +kernel
theorem dL_law_708 : decode cL_law 708 = .ok (.iaload, 1) := by decide +kernel
theorem dL_law_709 : decode cL_law 709 = .ok (.invokevirtual 102, 3) := by decide +kernel
theorem dL_law_712 : decode cL_law 712 = .ok (.aload_n 2, 1) := by decide +kernel
theorem dL_law_713 : decode cL_law 713 = .ok (.aload_n 0, 1) := by decide +kernel
theorem dL_law_714 : decode cL_law 714 = .ok (.iload_n 3, 1) := by decide +kernel
theorem dL_law_715 : decode cL_law 715 = .ok (.iconst 1, 1) := by decide +kernel
theorem dL_law_716 : decode cL_law 716 = .ok (.iadd, 1) := by decide +kernel
theorem dL_law_717 : decode cL_law 717 = .ok (.iaload, 1) := by decide +kernel
theorem dL_law_718 : decode cL_law 718 = .ok (.invokevirtual 105, 3) := by decide +kernel
theorem dL_law_721 : decode cL_law 721 = .ok (.if_icmp .eq 267, 3) := by decide +kernel
theorem dL_law_724 : decode cL_law 724 = .ok (.iconst 0, 1) := by decide +kernel
theorem dL_law_725 : decode cL_law 725 = .ok (.ireturn, 1) := by decide +kernel
theorem dL_law_726 : decode cL_law 726 = .ok (.aload_n 1, 1) := by decide +kernel
theorem dL_law_727 : decode cL_law 727 = .ok (.aload_n 0, 1) := by decide +kernel
theorem dL_law_728 : decode cL_law 728 = .ok (.iload_n 3, 1) := by decide +kernel
theorem dL_law_729 : decode cL_law 729 = .ok (.iconst 1, 1) := by decide +kernel
theorem dL_law_730 : decode cL_law 730 = .ok (.iadd, 1) := by decide +kernel
theorem dL_law_731 : decode cL_law 731 = .ok (.iaload, 1) := by decide +kernel
theorem dL_law_732 : decode cL_law 732 = .ok (.aload_n 0, 1) := by decide +kernel
theorem dL_law_733 : decode cL_law 733 = .ok (.iload_n 3, 1) := by decide +kernel
theorem dL_law_734 : decode cL_law 734 = .ok (.iconst 2, 1) := by decide +kernel
theorem dL_law_735 : decode cL_law 735 = .ok (.iadd, 1) := by decide +kernel
theorem dL_law_736 : decode cL_law 736 = .ok (.iaload, 1) := by decide +kernel
theorem dL_law_737 : decode cL_law 737 = .ok (.aload_n 0, 1) := by decide +kernel
theorem dL_law_738 : decode cL_law 738 = .ok (.iload_n 3, 1) := by decide +kernel
theorem dL_law_739 : decode cL_law 739 = .ok (.iconst 3, 1) := by decide +kernel
theorem dL_law_740 : decode cL_law 740 = .ok (.iadd, 1) := by decide +kernel
theorem dL_law_741 : decode cL_law 741 = .ok (.iaload, 1) := by decide +kernel
theorem dL_law_742 : decode cL_law 742 = .ok (.invokevirtual 106, 3) := by decide +kernel
theorem dL_law_745 : decode cL_law 745 = .ok (.aload_n 2, 1) := by decide +kernel
theorem dL_law_746 : decode cL_law 746 = .ok (.aload_n 0, 1) := by decide +kernel
theorem dL_law_747 : decode cL_law 747 = .ok (.iload_n 3, 1) := by decide +kernel
theorem dL_law_748 : decode cL_law 748 = .ok (.iconst 1, 1) := by decide +kernel
theorem dL_law_749 : decode cL_law 749 = .ok (.iadd, 1) := by decide +kernel
theorem dL_law_750 : decode cL_law 750 = .ok (.iaload, 1) := by decide +kernel
theorem dL_law_751 : decode cL_law 751 = .ok (.aload_n 0, 1) := by decide +kernel
theorem dL_law_752 : decode cL_law 752 = .ok (.iload_n 3, 1) := by decide +kernel
theorem dL_law_753 : decode cL_law 753 = .ok (.iconst 2, 1) := by decide +kernel
theorem dL_law_754 : decode cL_law 754 = .ok (.iadd, 1) := by decide +kernel
theorem dL_law_755 : decode cL_law 755 = .ok (.iaload, 1) := by decide +kernel
theorem dL_law_756 : decode cL_law 756 = .ok (.aload_n 0, 1) := by decide +kernel
theorem dL_law_757 : decode cL_law 757 = .ok (.iload_n 3, 1) := by decide +kernel
theorem dL_law_758 : decode cL_law 758 = .ok (.iconst 3, 1) := by decide +kernel
theorem dL_law_759 : decode cL_law 759 = .ok (.iadd, 1) := by decide +kernel
theorem dL_law_760 : decode cL_law 760 = .ok (.iaload, 1) := by decide +kernel
theorem dL_law_761 : decode cL_law 761 = .ok (.invokevirtual 109, 3) := by decide +kernel
theorem dL_law_764 : decode cL_law 764 = .ok (.if_icmp .eq 224, 3) := by decide +kernel
theorem dL_law_767 : decode cL_law 767 = .ok (.iconst 0, 1) := by decide +kernel
theorem dL_law_768 : decode cL_law 768 = .ok (.ireturn, 1) := by decide +kernel
theorem dL_law_769 : decode cL_law 769 = .ok (.aload_n 1, 1) := by decide +kernel
theorem dL_law_770 : decode cL_law 770 = .ok (.aload_n 0, 1) := by decide +kernel
theorem dL_law_771 : decode cL_law 771 = .ok (.iload_n 3, 1) := by decide +kernel
theorem dL_law_772 : decode cL_law 772 = .ok (.iconst 1, 1) := by decide +kernel
theorem dL_law_773 : decode cL_law 773 = .ok (.iadd, 1) := by decide +kernel
theorem dL_law_774 : decode cL_law 774 = .ok (.iaload, 1) := by decide +kernel
theorem dL_law_775 : decode cL_law 775 = .ok (.aload_n 0, 1) := by decide +kernel
theorem dL_law_776 : decode cL_law 776 = .ok (.iload_n 3, 1) := by decide +kernel
theorem dL_law_777 : decode cL_law 777 = .ok (.iconst 2, 1) := by decide +kernel
theorem dL_law_778 : decode cL_law 778 = .ok (.iadd, 1) := by decide +kernel
theorem dL_law_779 : decode cL_law 779 = .ok (.iaload, 1) := by decide +kernel
theorem dL_law_780 : decode cL_law 780 = .ok (.aload_n 0, 1) := by decide +kernel
theorem dL_law_781 : decode cL_law 781 = .ok (.iload_n 3, 1) := by decide +kernel
theorem dL_law_782 : decode cL_law 782 = .ok (.iconst 3, 1) := by decide +kernel
theorem dL_law_783 : decode cL_law 783 = .ok (.iadd, 1) := by decide +kernel
theorem dL_law_784 : decode cL_law 784 = .ok (.iaload, 1) := by decide +kernel
theorem dL_law_785 : decode cL_law 785 = .ok (.aload_n 0, 1) := by decide +kernel
theorem dL_law_786 : decode cL_law 786 = .ok (.iload_n 3, 1) := by decide +kernel
theorem dL_law_787 : decode cL_law 787 = .ok (.iconst 4, 1) := by decide +kernel
theorem dL_law_788 : decode cL_law 788 = .ok (.iadd, 1) := by decide +kernel
theorem dL_law_789 : decode cL_law 789 = .ok (.iaload, 1) := by decide +kernel
theorem dL_law_790 : decode cL_law 790 = .ok (.invokevirtual 110, 3) := by decide +kernel
theorem dL_law_793 : decode cL_law 793 = .ok (.aload_n 2, 1) := by decide +kernel
theorem dL_law_794 : decode cL_law 794 = .ok (.aload_n 0, 1) := by decide +kernel
theorem dL_law_795 : decode cL_law 795 = .ok (.iload_n 3, 1) := by decide +kernel
theorem dL_law_796 : decode cL_law 796 = .ok (.iconst 1, 1) := by decide +kernel
theorem dL_law_797 : decode cL_law 797 = .ok (.iadd, 1) := by decide +kernel
theorem dL_law_798 : decode cL_law 798 = .ok (.iaload, 1) := by decide +kernel
theorem dL_law_799 : decode cL_law 799 = .ok (.aload_n 0, 1) := by decide +kernel
theorem dL_law_800 : decode cL_law 800 = .ok (.iload_n 3, 1) := by decide +kernel
theorem dL_law_801 : decode cL_law 801 = .ok (.iconst 2, 1) := by decide +kernel
theorem dL_law_802 : decode cL_law 802 = .ok (.iadd, 1) := by decide +kernel
theorem dL_law_803 : decode cL_law 803 = .ok (.iaload, 1) := by decide +kernel
theorem dL_law_804 : decode cL_law 804 = .ok (.aload_n 0, 1) := by decide +kernel
theorem dL_law_805 : decode cL_law 805 = .ok (.iload_n 3, 1) := by decide +kernel
theorem dL_law_806 : decode cL_law 806 = .ok (.iconst 3, 1) := by decide +kernel
theorem dL_law_807 : decode cL_law 807 = .ok (.iadd, 1) := by decide +kernel
theorem dL_law_808 : decode cL_law 808 = .ok (.iaload, 1) := by decide +kernel
theorem dL_law_809 : decode cL_law 809 = .ok (.aload_n 0, 1) := by decide +kernel
theorem dL_law_810 : decode cL_law 810 = .ok (.iload_n 3, 1) := by decide +kernel
theorem dL_law_811 : decode cL_law 811 = .ok (.iconst 4, 1) := by decide +kernel
theorem dL_law_812 : decode cL_law 812 = .ok (.iadd, 1) := by decide +kernel
theorem dL_law_813 : decode cL_law 813 = .ok (.iaload, 1) := by decide +kernel
theorem dL_law_814 : decode cL_law 814 = .ok (.invokevirtual 114, 3) := by decide +kernel
theorem dL_law_817 : decode cL_law 817 = .ok (.lcmp, 1) := by decide +kernel
theorem dL_law_818 : decode cL_law 818 = .ok (.ifCond .eq 170, 3) := by decide +kernel
theorem dL_law_821 : decode cL_law 821 = .ok (.iconst 0, 1) := by decide +kernel
theorem dL_law_822 : decode cL_law 822 = .ok (.ireturn, 1) := by decide +kernel
theorem dL_law_823 : decode cL_law 823 = .ok (.aload_n 1, 1) := by decide +kernel
theorem dL_law_824 : decode cL_law 824 = .ok (.aload_n 0, 1) := by decide +kernel
theorem dL_law_825 : decode cL_law 825 = .ok (.iload_n 3, 1) := by decide +kernel
theorem dL_law_826 : decode cL_law 826 = .ok (.iconst 1, 1) := by decide +kernel
theorem dL_law_827 : decode cL_law 827 = .ok (.iadd, 1) := by decide +kernel
theorem dL_law_828 : decode cL_law 828 = .ok (.iaload, 1) := by decide +kernel
theorem dL_law_829 : decode cL_law 829 = .ok (.aload_n 0, 1) := by decide +kernel
theorem dL_law_830 : decode cL_law 830 = .ok (.iload_n 3, 1) := by decide +kernel
theorem dL_law_831 : decode cL_law 831 = .ok (.iconst 2, 1) := by decide +kernel
theorem dL_law_832 : decode cL_law 832 = .ok (.iadd, 1) := by decide +kernel
theorem dL_law_833 : decode cL_law 833 = .ok (.iaload, 1) := by decide +kernel
theorem dL_law_834 : decode cL_law 834 = .ok (.aload_n 0, 1) := by decide +kernel
theorem dL_law_835 : decode cL_law 835 = .ok (.iload_n 3, 1) := by decide +kernel
theorem dL_law_836 : decode cL_law 836 = .ok (.iconst 3, 1) := by decide +kernel
theorem dL_law_837 : decode cL_law 837 = .ok (.iadd, 1) := by decide +kernel
theorem dL_law_838 : decode cL_law 838 = .ok (.iaload, 1) := by decide +kernel
theorem dL_law_839 : decode cL_law 839 = .ok (.aload_n 0, 1) := by decide +kernel
theorem dL_law_840 : decode cL_law 840 = .ok (.iload_n 3, 1) := by decide +kernel
theorem dL_law_841 : decode cL_law 841 = .ok (.iconst 4, 1) := by decide +kernel
theorem dL_law_842 : decode cL_law 842 = .ok (.iadd, 1) := by decide +kernel
theorem dL_law_843 : decode cL_law 843 = .ok (.iaload, 1) := by decide +kernel
theorem dL_law_844 : decode cL_law 844 = .ok (.invokevirtual 115, 3) := by decide +kernel
theorem dL_law_847 : decode cL_law 847 = .ok (.aload_n 2, 1) := by decide +kernel
theorem dL_law_848 : decode cL_law 848 = .ok (.aload_n 0, 1) := by decide +kernel
theorem dL_law_849 : decode cL_law 849 = .ok (.iload_n 3, 1) := by decide +kernel
theorem dL_law_850 : decode cL_law 850 = .ok (.iconst 1, 1) := by decide +kernel
theorem dL_law_851 : decode cL_law 851 = .ok (.iadd, 1) := by decide +kernel
theorem dL_law_852 : decode cL_law 852 = .ok (.iaload, 1) := by decide +kernel
theorem dL_law_853 : decode cL_law 853 = .ok (.aload_n 0, 1) := by decide +kernel
theorem dL_law_854 : decode cL_law 854 = .ok (.iload_n 3, 1) := by decide +kernel
theorem dL_law_855 : decode cL_law 855 = .ok (.iconst 2, 1) := by decide +kernel
theorem dL_law_856 : decode cL_law 856 = .ok (.iadd, 1) := by decide +kernel
theorem dL_law_857 : decode cL_law 857 = .ok (.iaload, 1) := by decide +kernel
theorem dL_law_858 : decode cL_law 858 = .ok (.aload_n 0, 1) := by decide +kernel
theorem dL_law_859 : decode cL_law 859 = .ok (.iload_n 3, 1) := by decide +kernel
theorem dL_law_860 : decode cL_law 860 = .ok (.iconst 3, 1) := by decide +kernel
theorem dL_law_861 : decode cL_law 861 = .ok (.iadd, 1) := by decide +kernel
theorem dL_law_862 : decode cL_law 862 = .ok (.iaload, 1) := by decide +kernel
theorem dL_law_863 : decode cL_law 863 = .ok (.aload_n 0, 1) := by decide +kernel
theorem dL_law_864 : decode cL_law 864 = .ok (.iload_n 3, 1) := by decide +kernel
theorem dL_law_865 : decode cL_law 865 = .ok (.iconst 4, 1) := by decide +kernel
theorem dL_law_866 : decode cL_law 866 = .ok (.iadd, 1) := by decide +kernel
theorem dL_law_867 : decode cL_law 867 = .ok (.iaload, 1) := by decide +kernel
theorem dL_law_868 : decode cL_law 868 = .ok (.invokevirtual 119, 3) := by decide +kernel
theorem dL_law_871 : decode cL_law 871 = .ok (.if_icmp .eq 117, 3) := by decide +kernel
theorem dL_law_874 : decode cL_law 874 = .ok (.iconst 0, 1) := by decide +kernel
theorem dL_law_875 : decode cL_law 875 = .ok (.ireturn, 1) := by decide +kernel
theorem dL_law_876 : decode cL_law 876 = .ok (.aload_n 1, 1) := by decide +kernel
theorem dL_law_877 : decode cL_law 877 = .ok (.aload_n 0, 1) := by decide +kernel
theorem dL_law_878 : decode cL_law 878 = .ok (.iload_n 3, 1) := by decide +kernel
theorem dL_law_879 : decode cL_law 879 = .ok (.iconst 1, 1) := by decide +kernel
theorem dL_law_880 : decode cL_law 880 = .ok (.iadd, 1) := by decide +kernel
theorem dL_law_881 : decode cL_law 881 = .ok (.iaload, 1) := by decide +kernel
theorem dL_law_882 : decode cL_law 882 = .ok (.aload_n 0, 1) := by decide +kernel
theorem dL_law_883 : decode cL_law 883 = .ok (.iload_n 3, 1) := by decide +kernel
theorem dL_law_884 : decode cL_law 884 = .ok (.iconst 2, 1) := by decide +kernel
theorem dL_law_885 : decode cL_law 885 = .ok (.iadd, 1) := by decide +kernel
theorem dL_law_886 : decode cL_law 886 = .ok (.iaload, 1) := by decide +kernel
theorem dL_law_887 : decode cL_law 887 = .ok (.aload_n 0, 1) := by decide +kernel
theorem dL_law_888 : decode cL_law 888 = .ok (.iload_n 3, 1) := by decide +kernel
theorem dL_law_889 : decode cL_law 889 = .ok (.iconst 3, 1) := by decide +kernel
theorem dL_law_890 : decode cL_law 890 = .ok (.iadd, 1) := by decide +kernel
theorem dL_law_891 : decode cL_law 891 = .ok (.iaload, 1) := by decide +kernel
theorem dL_law_892 : decode cL_law 892 = .ok (.invokevirtual 120, 3) := by decide +kernel
theorem dL_law_895 : decode cL_law 895 = .ok (.aload_n 2, 1) := by decide +kernel
theorem dL_law_896 : decode cL_law 896 = .ok (.aload_n 0, 1) := by decide +kernel
theorem dL_law_897 : decode cL_law 897 = .ok (.iload_n 3, 1) := by decide +kernel
theorem dL_law_898 : decode cL_law 898 = .ok (.iconst 1, 1) := by decide +kernel
theorem dL_law_899 : decode cL_law 899 = .ok (.iadd, 1) := by decide +kernel
theorem dL_law_900 : decode cL_law 900 = .ok (.iaload, 1) := by decide +kernel
theorem dL_law_901 : decode cL_law 901 = .ok (.aload_n 0, 1) := by decide +kernel
theorem dL_law_902 : decode cL_law 902 = .ok (.iload_n 3, 1) := by decide +kernel
theorem dL_law_903 : decode cL_law 903 = .ok (.iconst 2, 1) := by decide +kernel
theorem dL_law_904 : decode cL_law 904 = .ok (.iadd, 1) := by decide +kernel
theorem dL_law_905 : decode cL_law 905 = .ok (.iaload, 1) := by decide +kernel
theorem dL_law_906 : decode cL_law 906 = .ok (.aload_n 0, 1) := by decide +kernel
theorem dL_law_907 : decode cL_law 907 = .ok (.iload_n 3, 1) := by decide +kernel
theorem dL_law_908 : decode cL_law 908 = .ok (.iconst 3, 1) := by decide +kernel
theorem dL_law_909 : decode cL_law 909 = .ok (.iadd, 1) := by decide +kernel
theorem dL_law_910 : decode cL_law 910 = .ok (.iaload, 1) := by decide +kernel
theorem dL_law_911 : decode cL_law 911 = .ok (.invokevirtual 123, 3) := by decide +kernel
theorem dL_law_914 : decode cL_law 914 = .ok (.if_icmp .eq 74, 3) := by decide +kernel
theorem dL_law_917 : decode cL_law 917 = .ok (.iconst 0, 1) := by decide +kernel
theorem dL_law_918 : decode cL_law 918 = .ok (.ireturn, 1) := by decide +kernel
theorem dL_law_919 : decode cL_law 919 = .ok (.aload_n 1, 1) := by decide +kernel
theorem dL_law_920 : decode cL_law 920 = .ok (.aload_n 0, 1) := by decide +kernel
theorem dL_law_921 : decode cL_law 921 = .ok (.iload_n 3, 1) := by decide +kernel
theorem dL_law_922 : decode cL_law 922 = .ok (.iconst 1, 1) := by decide +kernel
theorem dL_law_923 : decode cL_law 923 = .ok (.iadd, 1) := by decide +kernel
theorem dL_law_924 : decode cL_law 924 = .ok (.iaload, 1) := by decide +kernel
theorem dL_law_925 : decode cL_law 925 = .ok (.invokevirtual 124, 3) := by decide +kernel
theorem dL_law_928 : decode cL_law 928 = .ok (.aload_n 2, 1) := by decide +kernel
theorem dL_law_929 : decode cL_law 929 = .ok (.aload_n 0, 1) := by decide +kernel
theorem dL_law_930 : decode cL_law 930 = .ok (.iload_n 3, 1) := by decide +kernel
theorem dL_law_931 : decode cL_law 931 = .ok (.iconst 1, 1) := by decide +kernel
theorem dL_law_932 : decode cL_law 932 = .ok (.iadd, 1) := by decide +kernel
theorem dL_law_933 : decode cL_law 933 = .ok (.iaload, 1) := by decide +kernel
theorem dL_law_934 : decode cL_law 934 = .ok (.invokevirtual 127, 3) := by decide +kernel
theorem dL_law_937 : decode cL_law 937 = .ok (.if_icmp .eq 51, 3) := by decide +kernel
theorem dL_law_940 : decode cL_law 940 = .ok (.iconst 0, 1) := by decide +kernel
theorem dL_law_941 : decode cL_law 941 = .ok (.ireturn, 1) := by decide +kernel
theorem dL_law_942 : decode cL_law 942 = .ok (.aload_n 1, 1) := by decide +kernel
theorem dL_law_943 : decode cL_law 943 = .ok (.aload_n 0, 1) := by decide +kernel
theorem dL_law_944 : decode cL_law 944 = .ok (.iload_n 3, 1) := by decide +kernel
theorem dL_law_945 : decode cL_law 945 = .ok (.iconst 1, 1) := by decide +kernel
theorem dL_law_946 : decode cL_law 946 = .ok (.iadd, 1) := by decide +kernel
theorem dL_law_947 : decode cL_law 947 = .ok (.iaload, 1) := by decide +kernel
theorem dL_law_948 : decode cL_law 948 = .ok (.invokevirtual 128, 3) := by decide +kernel
theorem dL_law_951 : decode cL_law 951 = .ok (.aload_n 2, 1) := by decide +kernel
theorem dL_law_952 : decode cL_law 952 = .ok (.aload_n 0, 1) := by decide +kernel
theorem dL_law_953 : decode cL_law 953 = .ok (.iload_n 3, 1) := by decide +kernel
theorem dL_law_954 : decode cL_law 954 = .ok (.iconst 1, 1) := by decide +kernel
theorem dL_law_955 : decode cL_law 955 = .ok (.iadd, 1) := by decide +kernel
theorem dL_law_956 : decode cL_law 956 = .ok (.iaload, 1) := by decide +kernel
theorem dL_law_957 : decode cL_law 957 = .ok (.invokevirtual 131, 3) := by decide +kernel
theorem dL_law_960 : decode cL_law 960 = .ok (.if_icmp .eq 28, 3) := by decide +kernel
theorem dL_law_963 : decode cL_law 963 = .ok (.iconst 0, 1) := by decide +kernel
theorem dL_law_964 : decode cL_law 964 = .ok (.ireturn, 1) := by decide +kernel
theorem dL_law_965 : decode cL_law 965 = .ok (.aload_n 1, 1) := by decide +kernel
theorem dL_law_966 : decode cL_law 966 = .ok (.aload_n 0, 1) := by decide +kernel
theorem dL_law_967 : decode cL_law 967 = .ok (.iload_n 3, 1) := by decide +kernel
theorem dL_law_968 : decode cL_law 968 = .ok (.iconst 1, 1) := by decide +kernel
theorem dL_law_969 : decode cL_law 969 = .ok (.iadd, 1) := by decide +kernel
theorem dL_law_970 : decode cL_law 970 = .ok (.iaload, 1) := by decide +kernel
theorem dL_law_971 : decode cL_law 971 = .ok (.invokevirtual 132, 3) := by decide +kernel
theorem dL_law_974 : decode cL_law 974 = .ok (.aload_n 2, 1) := by decide +kernel
theorem dL_law_975 : decode cL_law 975 = .ok (.aload_n 0, 1) := by decide +kernel
theorem dL_law_976 : decode cL_law 976 = .ok (.iload_n 3, 1) := by decide +kernel
theorem dL_law_977 : decode cL_law 977 = .ok (.iconst 1, 1) := by decide +kernel
theorem dL_law_978 : decode cL_law 978 = .ok (.iadd, 1) := by decide +kernel
theorem dL_law_979 : decode cL_law 979 = .ok (.iaload, 1) := by decide +kernel
theorem dL_law_980 : decode cL_law 980 = .ok (.invokevirtual 135, 3) := by decide +kernel
theorem dL_law_983 : decode cL_law 983 = .ok (.if_icmp .eq 5, 3) := by decide +kernel
theorem dL_law_986 : decode cL_law 986 = .ok (.iconst 0, 1) := by decide +kernel
theorem dL_law_987 : decode cL_law 987 = .ok (.ireturn, 1) := by decide +kernel
theorem dL_law_988 : decode cL_law 988 = .ok (.iinc 3 5, 3) := by decide +kernel
theorem dL_law_991 : decode cL_law 991 = .ok (.goto (-973), 3) := by decide +kernel
theorem dL_law_994 : decode cL_law 994 = .ok (.iconst 1, 1) := by decide +kernel
theorem dL_law_995 : decode cL_law 995 = .ok (.ireturn, 1) := by decide +kernel
