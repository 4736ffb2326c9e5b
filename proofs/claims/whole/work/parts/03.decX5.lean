theorem dX5_init_0 : decode cX5_init 0 = .ok (.aload_n 0, 1) := by decide +kernel
theorem dX5_init_1 : decode cX5_init 1 = .ok (.invokespecial 1, 3) := by decide +kernel
theorem dX5_init_4 : decode cX5_init 4 = .ok (.aload_n 0, 1) := by decide +kernel
theorem dX5_init_5 : decode cX5_init 5 = .ok (.sipush 4486, 3) := by decide +kernel
theorem dX5_init_8 : decode cX5_init 8 = .ok (.newarray .int, 2) := by decide +kernel
theorem dX5_init_10 : decode cX5_init 10 = .ok (.putfield 9, 3) := by decide +kernel
theorem dX5_init_13 : decode cX5_init 13 = .ok (.aload_n 0, 1) := by decide +kernel
theorem dX5_init_14 : decode cX5_init 14 = .ok (.sipush 4486, 3) := by decide +kernel
theorem dX5_init_17 : decode cX5_init 17 = .ok (.newarray .int, 2) := by decide +kernel
theorem dX5_init_19 : decode cX5_init 19 = .ok (.putfield 13, 3) := by decide +kernel
theorem dX5_init_22 : decode cX5_init 22 = .ok (.aload_n 0, 1) := by decide +kernel
theorem dX5_init_23 : decode cX5_init 23 = .ok (.sipush 4486, 3) := by decide +kernel
theorem dX5_init_26 : decode cX5_init 26 = .ok (.newarray .int, 2) := by decide +kernel
theorem dX5_init_28 : decode cX5_init 28 = .ok (.putfield 16, 3) := by decide +kernel
theorem dX5_init_31 : decode cX5_init 31 = .ok (.aload_n 0, 1) := by decide +kernel
theorem dX5_init_32 : decode cX5_init 32 = .ok (.bipush 60, 2) := by decide +kernel
theorem dX5_init_34 : decode cX5_init 34 = .ok (.newarray .int, 2) := by decide +kernel
theorem dX5_init_36 : decode cX5_init 36 = .ok (.putfield 19, 3) := by decide +kernel
theorem dX5_init_39 : decode cX5_init 39 = .ok (.aload_n 0, 1) := by decide +kernel
theorem dX5_init_40 : decode cX5_init 40 = .ok (.iconst (-1), 1) := by decide +kernel
theorem dX5_init_41 : decode cX5_init 41 = .ok (.putfield 22, 3) := by decide +kernel
theorem dX5_init_44 : decode cX5_init 44 = .ok (.aload_n 0, 1) := by decide +kernel
theorem dX5_init_45 : decode cX5_init 45 = .ok (.sipush 150, 3) := by decide +kernel
theorem dX5_init_48 : decode cX5_init 48 = .ok (.newarray .int, 2) := by decide +kernel
theorem dX5_init_50 : decode cX5_init 50 = .ok (.putfield 26, 3) := by decide +kernel
theorem dX5_init_53 : decode cX5_init 53 = .ok (.aload_n 0, 1) := by decide +kernel
theorem dX5_init_54 : decode cX5_init 54 = .ok (.bipush 60, 2) := by decide +kernel
theorem dX5_init_56 : decode cX5_init 56 = .ok (.newarray .int, 2) := by decide +kernel
theorem dX5_init_58 : decode cX5_init 58 = .ok (.putfield 29, 3) := by decide +kernel
theorem dX5_init_61 : decode cX5_init 61 = .ok (.aload_n 0, 1) := by decide +kernel
theorem dX5_init_62 : decode cX5_init 62 = .ok (.bipush 60, 2) := by decide +kernel
theorem dX5_init_64 : decode cX5_init 64 = .ok (.newarray .int, 2) := by decide +kernel
theorem dX5_init_66 : decode cX5_init 66 = .ok (.putfield 32, 3) := by decide +kernel
theorem dX5_init_69 : decode cX5_init 69 = .ok (.aload_n 0, 1) := by decide +kernel
theorem dX5_init_70 : decode cX5_init 70 = .ok (.bipush 60, 2) := by decide +kernel
theorem dX5_init_72 : decode cX5_init 72 = .ok (.newarray .int, 2) := by decide +kernel
theorem dX5_init_74 : decode cX5_init 74 = .ok (.putfield 35, 3) := by decide +kernel
theorem dX5_init_77 : decode cX5_init 77 = .ok (.aload_n 0, 1) := by decide +kernel
theorem dX5_init_78 : decode cX5_init 78 = .ok (.getfield 9, 3) := by decide +kernel
theorem dX5_init_81 : decode cX5_init 81 = .ok (.iconst 0, 1) := by decide +kernel
theorem dX5_init_82 : decode cX5_init 82 = .ok (.iconst 3, 1) := by decide +kernel
theorem dX5_init_83 : decode cX5_init 83 = .ok (.iastore, 1) := by decide +kernel
theorem dX5_init_84 : decode cX5_init 84 = .ok (.aload_n 0, 1) := by decide +kernel
theorem dX5_init_85 : decode cX5_init 85 = .ok (.getfield 9, 3) := by decide +kernel
theorem dX5_init_88 : decode cX5_init 88 = .ok (.bipush 43, 2) := by decide +kernel
theorem dX5_init_90 : decode cX5_init 90 = .ok (.iconst 3, 1) := by decide +kernel
theorem dX5_init_91 : decode cX5_init 91 = .ok (.iastore, 1) := by decide +kernel
theorem dX5_init_92 : decode cX5_init 92 = .ok (.return_, 1) := by decide +kernel
theorem dX5_thrown_0 : decode cX5_thrown 0 = .ok (.aload_n 0, 1) := by decide +kernel
theorem dX5_thrown_1 : decode cX5_thrown 1 = .ok (.getfield 38, 3) := by decide +kernel
theorem dX5_thrown_4 : decode cX5_thrown 4 = .ok (.ireturn, 1) := by decide +kernel
theorem dX5_no_0 : decode cX5_no 0 = .ok (.aload_n 0, 1) := by decide +kernel
theorem dX5_no_1 : decode cX5_no 1 = .ok (.iload_n 1, 1) := by decide +kernel
theorem dX5_no_2 : decode cX5_no 2 = .ok (.putfield 38, 3) := by decide +kernel
theorem dX5_no_5 : decode cX5_no 5 = .ok (.iconst 0, 1) := by decide +kernel
theorem dX5_no_6 : decode cX5_no 6 = .ok (.ireturn, 1) := by decide +kernel
theorem dX5_isIn_0 : decode cX5_isIn 0 = .ok (.iload_n 0, 1) := by decide +kernel
theorem dX5_isIn_1 : decode cX5_isIn 1 = .ok (.iload_n 1, 1) := by decide +kernel
theorem dX5_isIn_2 : decode cX5_isIn 2 = .ok (.if_icmp .lt 12, 3) := by decide +kernel
theorem dX5_isIn_5 : decode cX5_isIn 5 = .ok (.iload_n 0, 1) := by decide +kernel
theorem dX5_isIn_6 : decode cX5_isIn 6 = .ok (.iload_n 2, 1) := by decide +kernel
theorem dX5_isIn_7 : decode cX5_isIn 7 = .ok (.if_icmp .gt 7, 3) := by decide +kernel
theorem dX5_isIn_10 : decode cX5_isIn 10 = .ok (.iconst 1, 1) := by decide +kernel
theorem dX5_isIn_11 : decode cX5_isIn 11 = .ok (.goto 4, 3) := by decide +kernel
theorem dX5_isIn_14 : decode cX5_isIn 14 = .ok (.iconst 0, 1) := by decide +kernel
theorem dX5_isIn_15 : decode cX5_isIn 15 = .ok (.ireturn, 1) := by decide +kernel
theorem dX5_copies_0 : decode cX5_copies 0 = .ok (.iconst 0, 1) := by decide +kernel
theorem dX5_copies_1 : decode cX5_copies 1 = .ok (.istore_n 2, 1) := by decide +kernel
theorem dX5_copies_2 : decode cX5_copies 2 = .ok (.iload_n 2, 1) := by decide +kernel
theorem dX5_copies_3 : decode cX5_copies 3 = .ok (.sipush 4486, 3) := by decide +kernel
theorem dX5_copies_6 : decode cX5_copies 6 = .ok (.if_icmp .ge 15, 3) := by decide +kernel
theorem dX5_copies_9 : decode cX5_copies 9 = .ok (.aload_n 1, 1) := by decide +kernel
theorem dX5_copies_10 : decode cX5_copies 10 = .ok (.iload_n 2, 1) := by decide +kernel
theorem dX5_copies_11 : decode cX5_copies 11 = .ok (.aload_n 0, 1) := by decide +kernel
theorem dX5_copies_12 : decode cX5_copies 12 = .ok (.iload_n 2, 1) := by decide +kernel
theorem dX5_copies_13 : decode cX5_copies 13 = .ok (.iaload, 1) := by decide +kernel
theorem dX5_copies_14 : decode cX5_copies 14 = .ok (.iastore, 1) := by decide +kernel
theorem dX5_copies_15 : decode cX5_copies 15 = .ok (.iinc 2 1, 3) := by decide +kernel
theorem dX5_copies_18 : decode cX5_copies 18 = .ok (.goto (-16), 3) := by decide +kernel
theorem dX5_copies_21 : decode cX5_copies 21 = .ok (.return_, 1) := by decide +kernel
theorem dX5_isProcess_0 : decode cX5_isProcess 0 = .ok (.iload_n 0, 1) := by decide +kernel
theorem dX5_isProcess_1 : decode cX5_isProcess 1 = .ok (.iconst 0, 1) := by decide +kernel
theorem dX5_isProcess_2 : decode cX5_isProcess 2 = .ok (.iconst 5, 1) := by decide +kernel
theorem dX5_isProcess_3 : decode cX5_isProcess 3 = .ok (.invokestatic 41, 3) := by decide +kernel
theorem dX5_isProcess_6 : decode cX5_isProcess 6 = .ok (.ireturn, 1) := by decide +kernel
theorem dX5_isMessage_0 : decode cX5_isMessage 0 = .ok (.iload_n 1, 1) := by decide +kernel
theorem dX5_isMessage_1 : decode cX5_isMessage 1 = .ok (.iconst 0, 1) := by decide +kernel
theorem dX5_isMessage_2 : decode cX5_isMessage 2 = .ok (.aload_n 0, 1) := by decide +kernel
theorem dX5_isMessage_3 : decode cX5_isMessage 3 = .ok (.getfield 9, 3) := by decide +kernel
theorem dX5_isMessage_6 : decode cX5_isMessage 6 = .ok (.bipush 44, 2) := by decide +kernel
theorem dX5_isMessage_8 : decode cX5_isMessage 8 = .ok (.iaload, 1) := by decide +kernel
theorem dX5_isMessage_9 : decode cX5_isMessage 9 = .ok (.iconst 1, 1) := by decide +kernel
theorem dX5_isMessage_10 : decode cX5_isMessage 10 = .ok (.isub, 1) := by decide +kernel
theorem dX5_isMessage_11 : decode cX5_isMessage 11 = .ok (.invokestatic 41, 3) := by decide +kernel
theorem dX5_isMessage_14 : decode cX5_isMessage 14 = .ok (.ireturn, 1) := by decide +kernel
theorem dX5_members_0 : decode cX5_members 0 = .ok (.aload_n 0, 1) := by decide +kernel
theorem dX5_members_1 : decode cX5_members 1 = .ok (.getfield 9, 3) := by decide +kernel
theorem dX5_members_4 : decode cX5_members 4 = .ok (.iconst 0, 1) := by decide +kernel
theorem dX5_members_5 : decode cX5_members 5 = .ok (.aload_n 0, 1) := by decide +kernel
theorem dX5_members_6 : decode cX5_members 6 = .ok (.getfield 9, 3) := by decide +kernel
theorem dX5_members_9 : decode cX5_members 9 = .ok (.bipush 42, 2) := by decide +kernel
theorem dX5_members_11 : decode cX5_members 11 = .ok (.iaload, 1) := by decide +kernel
theorem dX5_members_12 : decode cX5_members 12 = .ok (.iadd, 1) := by decide +kernel
theorem dX5_members_13 : decode cX5_members 13 = .ok (.iaload, 1) := by decide +kernel
theorem dX5_members_14 : decode cX5_members 14 = .ok (.ireturn, 1) := by decide +kernel
theorem dX5_isMember_0 : decode cX5_isMember 0 = .ok (.aload_n 0, 1) := by decide +kernel
theorem dX5_isMember_1 : decode cX5_isMember 1 = .ok (.invokevirtual 45, 3) := by decide +kernel
theorem dX5_isMember_4 : decode cX5_isMember 4 = .ok (.iload_n 1, 1) := by decide +kernel
theorem dX5_isMember_5 : decode cX5_isMember 5 = .ok (.ishr, 1) := by decide +kernel
theorem dX5_isMember_6 : decode cX5_isMember 6 = .ok (.iconst 1, 1) := by decide +kernel
theorem dX5_isMember_7 : decode cX5_isMember 7 = .ok (.iand, 1) := by decide +kernel
theorem dX5_isMember_8 : decode cX5_isMember 8 = .ok (.iconst 1, 1) := by decide +kernel
theorem dX5_isMember_9 : decode cX5_isMember 9 = .ok (.if_icmp .ne 7, 3) := by decide +kernel
theorem dX5_isMember_12 : decode cX5_isMember 12 = .ok (.iconst 1, 1) := by decide +kernel
theorem dX5_isMember_13 : decode cX5_isMember 13 = .ok (.goto 4, 3) := by decide +kernel
theorem dX5_isMember_16 : decode cX5_isMember 16 = .ok (.iconst 0, 1) := by decide +kernel
theorem dX5_isMember_17 : decode cX5_isMember 17 = .ok (.ireturn, 1) := by decide +kernel
theorem dX5_isOne_0 : decode cX5_isOne 0 = .ok (.aload_n 0, 1) := by decide +kernel
theorem dX5_isOne_1 : decode cX5_isOne 1 = .ok (.iload_n 1, 1) := by decide +kernel
theorem dX5_isOne_2 : decode cX5_isOne 2 = .ok (.invokestatic 49, 3) := by decide +kernel
theorem dX5_isOne_5 : decode cX5_isOne 5 = .ok (.ifCond .eq 7, 3) := by decide +kernel
theorem dX5_isOne_8 : decode cX5_isOne 8 = .ok (.iconst 0, 1) := by decide +kernel
theorem dX5_isOne_9 : decode cX5_isOne 9 = .ok (.goto 4, 3) := by decide +kernel
theorem dX5_isOne_12 : decode cX5_isOne 12 = .ok (.iconst 1, 1) := by decide +kernel
theorem dX5_isOne_13 : decode cX5_isOne 13 = .ok (.putfield 38, 3) := by decide +kernel
theorem dX5_isOne_16 : decode cX5_isOne 16 = .ok (.aload_n 0, 1) := by decide +kernel
theorem dX5_isOne_17 : decode cX5_isOne 17 = .ok (.getfield 38, 3) := by decide +kernel
theorem dX5_isOne_20 : decode cX5_isOne 20 = .ok (.ifCond .ne 7, 3) := by decide +kernel
theorem dX5_isOne_23 : decode cX5_isOne 23 = .ok (.iconst 1, 1) := by decide +kernel
theorem dX5_isOne_24 : decode cX5_isOne 24 = .ok (.goto 4, 3) := by decide +kernel
theorem dX5_isOne_27 : decode cX5_isOne 27 = .ok (.iconst 0, 1) := by decide +kernel
theorem dX5_isOne_28 : decode cX5_isOne 28 = .ok (.ireturn, 1) := by decide +kernel
theorem dX5_isInView_0 : decode cX5_isInView 0 = .ok (.aload_n 0, 1) := by decide +kernel
theorem dX5_isInView_1 : decode cX5_isInView 1 = .ok (.iload_n 1, 1) := by decide +kernel
theorem dX5_isInView_2 : decode cX5_isInView 2 = .ok (.invokestatic 49, 3) := by decide +kernel
theorem dX5_isInView_5 : decode cX5_isInView 5 = .ok (.ifCond .ne 7, 3) := by decide +kernel
theorem dX5_isInView_8 : decode cX5_isInView 8 = .ok (.iconst 1, 1) := by decide +kernel
theorem dX5_isInView_9 : decode cX5_isInView 9 = .ok (.goto 16, 3) := by decide +kernel
theorem dX5_isInView_12 : decode cX5_isInView 12 = .ok (.aload_n 0, 1) := by decide +kernel
theorem dX5_isInView_13 : decode cX5_isInView 13 = .ok (.iload_n 1, 1) := by decide +kernel
theorem dX5_isInView_14 : decode cX5_isInView 14 = .ok (.invokevirtual 53, 3) := by decide +kernel
theorem dX5_isInView_17 : decode cX5_isInView 17 = .ok (.ifCond .eq 7, 3) := by decide +kernel
theorem dX5_isInView_20 : decode cX5_isInView 20 = .ok (.iconst 0, 1) := by decide +kernel
theorem dX5_isInView_21 : decode cX5_isInView 21 = .ok (.goto 4, 3) := by decide +kernel
theorem dX5_isInView_24 : decode cX5_isInView 24 = .ok (.iconst 2, 1) := by decide +kernel
theorem dX5_isInView_25 : decode cX5_isInView 25 = .ok (.putfield 38, 3) := by decide +kernel
theorem dX5_isInView_28 : decode cX5_isInView 28 = .ok (.aload_n 0, 1) := by decide +kernel
theorem dX5_isInView_29 : decode cX5_isInView 29 = .ok (.getfield 38, 3) := by decide +kernel
theorem dX5_isInView_32 : decode cX5_isInView 32 = .ok (.ifCond .ne 7, 3) := by decide +kernel
theorem dX5_isInView_35 : decode cX5_isInView 35 = .ok (.iconst 1, 1) := by decide +kernel
theorem dX5_isInView_36 : decode cX5_isInView 36 = .ok (.goto 4, 3) := by decide +kernel
theorem dX5_isInView_39 : decode cX5_isInView 39 = .ok (.iconst 0, 1) := by decide +kernel
theorem dX5_isInView_40 : decode cX5_isInView 40 = .ok (.ireturn, 1) := by decide +kernel
theorem dX5_isSent_0 : decode cX5_isSent 0 = .ok (.aload_n 0, 1) := by decide +kernel
theorem dX5_isSent_1 : decode cX5_isSent 1 = .ok (.aload_n 0, 1) := by decide +kernel
theorem dX5_isSent_2 : decode cX5_isSent 2 = .ok (.iload_n 1, 1) := by decide +kernel
theorem dX5_isSent_3 : decode cX5_isSent 3 = .ok (.invokevirtual 56, 3) := by decide +kernel
theorem dX5_isSent_6 : decode cX5_isSent 6 = .ok (.ifCond .eq 7, 3) := by decide +kernel
theorem dX5_isSent_9 : decode cX5_isSent 9 = .ok (.iconst 0, 1) := by decide +kernel
theorem dX5_isSent_10 : decode cX5_isSent 10 = .ok (.goto 4, 3) := by decide +kernel
theorem dX5_isSent_13 : decode cX5_isSent 13 = .ok (.iconst 1, 1) := by decide +kernel
theorem dX5_isSent_14 : decode cX5_isSent 14 = .ok (.putfield 38, 3) := by decide +kernel
theorem dX5_isSent_17 : decode cX5_isSent 17 = .ok (.aload_n 0, 1) := by decide +kernel
theorem dX5_isSent_18 : decode cX5_isSent 18 = .ok (.getfield 38, 3) := by decide +kernel
theorem dX5_isSent_21 : decode cX5_isSent 21 = .ok (.ifCond .ne 7, 3) := by decide +kernel
theorem dX5_isSent_24 : decode cX5_isSent 24 = .ok (.iconst 1, 1) := by decide +kernel
theorem dX5_isSent_25 : decode cX5_isSent 25 = .ok (.goto 4, 3) := by decide +kernel
theorem dX5_isSent_28 : decode cX5_isSent 28 = .ok (.iconst 0, 1) := by decide +kernel
theorem dX5_isSent_29 : decode cX5_isSent 29 = .ok (.ireturn, 1) := by decide +kernel
theorem dX5_count_0 : decode cX5_count 0 = .ok (.iconst 0, 1) := by decide +kernel
theorem dX5_count_1 : decode cX5_count 1 = .ok (.istore_n 1, 1) := by decide +kernel
theorem dX5_count_2 : decode cX5_count 2 = .ok (.iconst 0, 1) := by decide +kernel
theorem dX5_count_3 : decode cX5_count 3 = .ok (.istore_n 2, 1) := by decide +kernel
theorem dX5_count_4 : decode cX5_count 4 = .ok (.iload_n 2, 1) := by decide +kernel
theorem dX5_count_5 : decode cX5_count 5 = .ok (.bipush 6, 2) := by decide +kernel
theorem dX5_count_7 : decode cX5_count 7 = .ok (.if_icmp .ge 17, 3) := by decide +kernel
theorem dX5_count_10 : decode cX5_count 10 = .ok (.iload_n 1, 1) := by decide +kernel
theorem dX5_count_11 : decode cX5_count 11 = .ok (.iload_n 0, 1) := by decide +kernel
theorem dX5_count_12 : decode cX5_count 12 = .ok (.iload_n 2, 1) := by decide +kernel
theorem dX5_count_13 : decode cX5_count 13 = .ok (.ishr, 1) := by decide +kernel
theorem dX5_count_14 : decode cX5_count 14 = .ok (.iconst 1, 1) := by decide +kernel
theorem dX5_count_15 : decode cX5_count 15 = .ok (.iand, 1) := by decide +kernel
theorem dX5_count_16 : decode cX5_count 16 = .ok (.iadd, 1) := by decide +kernel
theorem dX5_count_17 : decode cX5_count 17 = .ok (.istore_n 1, 1) := by decide +kernel
theorem dX5_count_18 : decode cX5_count 18 = .ok (.iinc 2 1, 3) := by decide +kernel
theorem dX5_count_21 : decode cX5_count 21 = .ok (.goto (-17), 3) := by decide +kernel
theorem dX5_count_24 : decode cX5_count 24 = .ok (.iload_n 1, 1) := by decide +kernel
theorem dX5_count_25 : decode cX5_count 25 = .ok (.ireturn, 1) := by decide +kernel
theorem dX5_reset_0 : decode cX5_reset 0 = .ok (.aload_n 0, 1) := by decide +kernel
theorem dX5_reset_1 : decode cX5_reset 1 = .ok (.iconst 0, 1) := by decide +kernel
theorem dX5_reset_2 : decode cX5_reset 2 = .ok (.putfield 38, 3) := by decide +kernel
theorem dX5_reset_5 : decode cX5_reset 5 = .ok (.iload_n 1, 1) := by decide +kernel
theorem dX5_reset_6 : decode cX5_reset 6 = .ok (.iconst 1, 1) := by decide +kernel
theorem dX5_reset_7 : decode cX5_reset 7 = .ok (.bipush 63, 2) := by decide +kernel
theorem dX5_reset_9 : decode cX5_reset 9 = .ok (.invokestatic 41, 3) := by decide +kernel
theorem dX5_reset_12 : decode cX5_reset 12 = .ok (.ifCond .ne 9, 3) := by decide +kernel
theorem dX5_reset_15 : decode cX5_reset 15 = .ok (.aload_n 0, 1) := by decide +kernel
theorem dX5_reset_16 : decode cX5_reset 16 = .ok (.iconst 1, 1) := by decide +kernel
theorem dX5_reset_17 : decode cX5_reset 17 = .ok (.invokevirtual 59, 3) := by decide +kernel
theorem dX5_reset_20 : decode cX5_reset 20 = .ok (.ireturn, 1) := by decide +kernel
theorem dX5_reset_21 : decode cX5_reset 21 = .ok (.aload_n 0, 1) := by decide +kernel
theorem dX5_reset_22 : decode cX5_reset 22 = .ok (.getfield 9, 3) := by decide +kernel
theorem dX5_reset_25 : decode cX5_reset 25 = .ok (.bipush 44, 2) := by decide +kernel
theorem dX5_reset_27 : decode cX5_reset 27 = .ok (.iaload, 1) := by decide +kernel
theorem dX5_reset_28 : decode cX5_reset 28 = .ok (.istore_n 2, 1) := by decide +kernel
theorem dX5_reset_29 : decode cX5_reset 29 = .ok (.iconst 0, 1) := by decide +kernel
theorem dX5_reset_30 : decode cX5_reset 30 = .ok (.istore_n 3, 1) := by decide +kernel
theorem dX5_reset_31 : decode cX5_reset 31 = .ok (.iload_n 3, 1) := by decide +kernel
theorem dX5_reset_32 : decode cX5_reset 32 = .ok (.sipush 4486, 3) := by decide +kernel
theorem dX5_reset_35 : decode cX5_reset 35 = .ok (.if_icmp .ge 16, 3) := by decide +kernel
theorem dX5_reset_38 : decode cX5_reset 38 = .ok (.aload_n 0, 1) := by decide +kernel
theorem dX5_reset_39 : decode cX5_reset 39 = .ok (.getfield 9, 3) := by decide +kernel
theorem dX5_reset_42 : decode cX5_reset 42 = .ok (.iload_n 3, 1) := by decide +kernel
theorem dX5_reset_43 : decode cX5_reset 43 = .ok (.iconst 0, 1) := by decide +kernel
theorem dX5_reset_44 : decode cX5_reset 44 = .ok (.iastore, 1) := by decide +kernel
theorem dX5_reset_45 : decode cX5_reset 45 = .ok (.iinc 3 1, 3) := by decide +kernel
theorem dX5_reset_48 : decode cX5_reset 48 = .ok (.goto (-17), 3) := by decide +kernel
theorem dX5_reset_51 : decode cX5_reset 51 = .ok (.aload_n 0, 1) := by decide +kernel
theorem dX5_reset_52 : decode cX5_reset 52 = .ok (.getfield 9, 3) := by decide +kernel
theorem dX5_reset_55 : decode cX5_reset 55 = .ok (.iconst 0, 1) := by decide +kernel
theorem dX5_reset_56 : decode cX5_reset 56 = .ok (.iload_n 1, 1) := by decide +kernel
theorem dX5_reset_57 : decode cX5_reset 57 = .ok (.iastore, 1) := by decide +kernel
theorem dX5_reset_58 : decode cX5_reset 58 = .ok (.aload_n 0, 1) := by decide +kernel
theorem dX5_reset_59 : decode cX5_reset 59 = .ok (.getfield 9, 3) := by decide +kernel
theorem dX5_reset_62 : decode cX5_reset 62 = .ok (.bipush 43, 2) := by decide +kernel
theorem dX5_reset_64 : decode cX5_reset 64 = .ok (.iload_n 1, 1) := by decide +kernel
theorem dX5_reset_65 : decode cX5_reset 65 = .ok (.iastore, 1) := by decide +kernel
theorem dX5_reset_66 : decode cX5_reset 66 = .ok (.iload_n 2, 1) := by decide +kernel
theorem dX5_reset_67 : decode cX5_reset 67 = .ok (.ireturn, 1) := by decide +kernel
theorem dX5_view_0 : decode cX5_view 0 = .ok (.aload_n 0, 1) := by decide +kernel
theorem dX5_view_1 : decode cX5_view 1 = .ok (.iconst 0, 1) := by decide +kernel
theorem dX5_view_2 : decode cX5_view 2 = .ok (.putfield 38, 3) := by decide +kernel
theorem dX5_view_5 : decode cX5_view 5 = .ok (.aload_n 0, 1) := by decide +kernel
theorem dX5_view_6 : decode cX5_view 6 = .ok (.getfield 9, 3) := by decide +kernel
theorem dX5_view_9 : decode cX5_view 9 = .ok (.bipush 42, 2) := by decide +kernel
theorem dX5_view_11 : decode cX5_view 11 = .ok (.iaload, 1) := by decide +kernel
theorem dX5_view_12 : decode cX5_view 12 = .ok (.ireturn, 1) := by decide +kernel
theorem dX5_membersOf_0 : decode cX5_membersOf 0 = .ok (.aload_n 0, 1) := by decide +kernel
theorem dX5_membersOf_1 : decode cX5_membersOf 1 = .ok (.iconst 0, 1) := by decide +kernel
theorem dX5_membersOf_2 : decode cX5_membersOf 2 = .ok (.putfield 38, 3) := by decide +kernel
theorem dX5_membersOf_5 : decode cX5_membersOf 5 = .ok (.iload_n 1, 1) := by decide +kernel
theorem dX5_membersOf_6 : decode cX5_membersOf 6 = .ok (.iconst 0, 1) := by decide +kernel
theorem dX5_membersOf_7 : decode cX5_membersOf 7 = .ok (.aload_n 0, 1) := by decide +kernel
theorem dX5_membersOf_8 : decode cX5_membersOf 8 = .ok (.getfield 9, 3) := by decide +kernel
theorem dX5_membersOf_11 : decode cX5_membersOf 11 = .ok (.bipush 42, 2) := by decide +kernel
theorem dX5_membersOf_13 : decode cX5_membersOf 13 = .ok (.iaload, 1) := by decide +kernel
theorem dX5_membersOf_14 : decode cX5_membersOf 14 = .ok (.invokestatic 41, 3) := by decide +kernel
theorem dX5_membersOf_17 : decode cX5_membersOf 17 = .ok (.ifCond .eq 14, 3) := by decide +kernel
theorem dX5_membersOf_20 : decode cX5_membersOf 20 = .ok (.aload_n 0, 1) := by decide +kernel
theorem dX5_membersOf_21 : decode cX5_membersOf 21 = .ok (.getfield 9, 3) := by decide +kernel
theorem dX5_membersOf_24 : decode cX5_membersOf 24 = .ok (.iconst 0, 1) := by decide +kernel
theorem dX5_membersOf_25 : decode cX5_membersOf 25 = .ok (.iload_n 1, 1) := by decide +kernel
theorem dX5_membersOf_26 : decode cX5_membersOf 26 = .ok (.iadd, 1) := by decide +kernel
theorem dX5_membersOf_27 : decode cX5_membersOf 27 = .ok (.iaload, 1) := by decide +kernel
theorem dX5_membersOf_28 : decode cX5_membersOf 28 = .ok (.goto 8, 3) := by decide +kernel
theorem dX5_membersOf_31 : decode cX5_membersOf 31 = .ok (.aload_n 0, 1) := by decide +kernel
theorem dX5_membersOf_32 : decode cX5_membersOf 32 = .ok (.iconst 1, 1) := by decide +kernel
theorem dX5_membersOf_33 : decode cX5_membersOf 33 = .ok (.invokevirtual 59, 3) := by decide +kernel
theorem dX5_membersOf_36 : decode cX5_membersOf 36 = .ok (.ireturn, 1) := by decide +kernel
theorem dX5_forcedIn_0 : decode cX5_forcedIn 0 = .ok (.aload_n 0, 1) := by decide +kernel
theorem dX5_forcedIn_1 : decode cX5_forcedIn 1 = .ok (.iconst 0, 1) := by decide +kernel
theorem dX5_forcedIn_2 : decode cX5_forcedIn 2 = .ok (.putfield 38, 3) := by decide +kernel
theorem dX5_forcedIn_5 : decode cX5_forcedIn 5 = .ok (.iload_n 1, 1) := by decide +kernel
theorem dX5_forcedIn_6 : decode cX5_forcedIn 6 = .ok (.iconst 0, 1) := by decide +kernel
theorem dX5_forcedIn_7 : decode cX5_forcedIn 7 = .ok (.aload_n 0, 1) := by decide +kernel
theorem dX5_forcedIn_8 : decode cX5_forcedIn 8 = .ok (.getfield 9, 3) := by decide +kernel
theorem dX5_forcedIn_11 : decode cX5_forcedIn 11 = .ok (.bipush 42, 2) := by decide +kernel
theorem dX5_forcedIn_13 : decode cX5_forcedIn 13 = .ok (.iaload, 1) := by decide +kernel
theorem dX5_forcedIn_14 : decode cX5_forcedIn 14 = .ok (.invokestatic 41, 3) := by decide +kernel
theorem dX5_forcedIn_17 : decode cX5_forcedIn 17 = .ok (.ifCond .eq 15, 3) := by decide +kernel
theorem dX5_forcedIn_20 : decode cX5_forcedIn 20 = .ok (.aload_n 0, 1) := by decide +kernel
theorem dX5_forcedIn_21 : decode cX5_forcedIn 21 = .ok (.getfield 9, 3) := by decide +kernel
theorem dX5_forcedIn_24 : decode cX5_forcedIn 24 = .ok (.bipush 21, 2) := by decide +kernel
theorem dX5_forcedIn_26 : decode cX5_forcedIn 26 = .ok (.iload_n 1, 1) := by decide +kernel
theorem dX5_forcedIn_27 : decode cX5_forcedIn 27 = .ok (.iadd, 1) := by decide +kernel
theorem dX5_forcedIn_28 : decode cX5_forcedIn 28 = .ok (.iaload, 1) := by decide +kernel
theorem dX5_forcedIn_29 : decode cX5_forcedIn 29 = .ok (.goto 8, 3) := by decide +kernel
theorem dX5_forcedIn_32 : decode cX5_forcedIn 32 = .ok (.aload_n 0, 1) := by decide +kernel
theorem dX5_forcedIn_33 : decode cX5_forcedIn 33 = .ok (.iconst 1, 1) := by decide +kernel
theorem dX5_forcedIn_34 : decode cX5_forcedIn 34 = .ok (.invokevirtual 59, 3) := by decide +kernel
theorem dX5_forcedIn_37 : decode cX5_forcedIn 37 = .ok (.ireturn, 1) := by decide +kernel
theorem dX5_proposed_0 : decode cX5_proposed 0 = .ok (.aload_n 0, 1) := by decide +kernel
theorem dX5_proposed_1 : decode cX5_proposed 1 = .ok (.iconst 0, 1) := by decide +kernel
theorem dX5_proposed_2 : decode cX5_proposed 2 = .ok (.putfield 38, 3) := by decide +kernel
theorem dX5_proposed_5 : decode cX5_proposed 5 = .ok (.aload_n 0, 1) := by decide +kernel
theorem dX5_proposed_6 : decode cX5_proposed 6 = .ok (.getfield 9, 3) := by decide +kernel
theorem dX5_proposed_9 : decode cX5_proposed 9 = .ok (.bipush 43, 2) := by decide +kernel
theorem dX5_proposed_11 : decode cX5_proposed 11 = .ok (.iaload, 1) := by decide +kernel
theorem dX5_proposed_12 : decode cX5_proposed 12 = .ok (.ireturn, 1) := by decide +kernel
theorem dX5_requestJoin_0 : decode cX5_requestJoin 0 = .ok (.aload_n 0, 1) := by decide +kernel
theorem dX5_requestJoin_1 : decode cX5_requestJoin 1 = .ok (.iload_n 1, 1) := by decide +kernel
theorem dX5_requestJoin_2 : decode cX5_requestJoin 2 = .ok (.invokevirtual 63, 3) := by decide +kernel
theorem dX5_requestJoin_5 : decode cX5_requestJoin 5 = .ok (.ifCond .ne 5, 3) := by decide +kernel
theorem dX5_requestJoin_8 : decode cX5_requestJoin 8 = .ok (.iconst 0, 1) := by decide +kernel
theorem dX5_requestJoin_9 : decode cX5_requestJoin 9 = .ok (.ireturn, 1) := by decide +kernel
theorem dX5_requestJoin_10 : decode cX5_requestJoin 10 = .ok (.aload_n 0, 1) := by decide +kernel
theorem dX5_requestJoin_11 : decode cX5_requestJoin 11 = .ok (.getfield 9, 3) := by decide +kernel
theorem dX5_requestJoin_14 : decode cX5_requestJoin 14 = .ok (.bipush 43, 2) := by decide +kernel
theorem dX5_requestJoin_16 : decode cX5_requestJoin 16 = .ok (.iaload, 1) := by decide +kernel
theorem dX5_requestJoin_17 : decode cX5_requestJoin 17 = .ok (.iload_n 1, 1) := by decide +kernel
theorem dX5_requestJoin_18 : decode cX5_requestJoin 18 = .ok (.ishr, 1) := by decide +kernel
theorem dX5_requestJoin_19 : decode cX5_requestJoin 19 = .ok (.iconst 1, 1) := by decide +kernel
theorem dX5_requestJoin_20 : decode cX5_requestJoin 20 = .ok (.iand, 1) := by decide +kernel
theorem dX5_requestJoin_21 : decode cX5_requestJoin 21 = .ok (.iconst 1, 1) := by decide +kernel
theorem dX5_requestJoin_22 : decode cX5_requestJoin 22 = .ok (.if_icmp .ne 9, 3) := by decide +kernel
theorem dX5_requestJoin_25 : decode cX5_requestJoin 25 = .ok (.aload_n 0, 1) := by decide +kernel
theorem dX5_requestJoin_26 : decode cX5_requestJoin 26 = .ok (.iconst 2, 1) := by decide +kernel
theorem dX5_requestJoin_27 : decode cX5_requestJoin 27 = .ok (.invokevirtual 59, 3) := by decide +kernel
theorem dX5_requestJoin_30 : decode cX5_requestJoin 30 = .ok (.ireturn, 1) := by decide +kernel
theorem dX5_requestJoin_31 : decode cX5_requestJoin 31 = .ok (.aload_n 0, 1) := by decide +kernel
theorem dX5_requestJoin_32 : decode cX5_requestJoin 32 = .ok (.getfield 9, 3) := by decide +kernel
theorem dX5_requestJoin_35 : decode cX5_requestJoin 35 = .ok (.bipush 43, 2) := by decide +kernel
theorem dX5_requestJoin_37 : decode cX5_requestJoin 37 = .ok (.dup2, 1) := by decide +kernel
theorem dX5_requestJoin_38 : decode cX5_requestJoin 38 = .ok (.iaload, 1) := by decide +kernel
theorem dX5_requestJoin_39 : decode cX5_requestJoin 39 = .ok (.iconst 1, 1) := by decide +kernel
theorem dX5_requestJoin_40 : decode cX5_requestJoin 40 = .ok (.iload_n 1, 1) := by decide +kernel
theorem dX5_requestJoin_41 : decode cX5_requestJoin 41 = .ok (.ishl, 1) := by decide +kernel
theorem dX5_requestJoin_42 : decode cX5_requestJoin 42 = .ok (.ior, 1) := by decide +kernel
theorem dX5_requestJoin_43 : decode cX5_requestJoin 43 = .ok (.iastore, 1) := by decide +kernel
theorem dX5_requestJoin_44 : decode cX5_requestJoin 44 = .ok (.aload_n 0, 1) := by decide +kernel
theorem dX5_requestJoin_45 : decode cX5_requestJoin 45 = .ok (.getfield 9, 3) := by decide +kernel
theorem dX5_requestJoin_48 : decode cX5_requestJoin 48 = .ok (.bipush 43, 2) := by decide +kernel
theorem dX5_requestJoin_50 : decode cX5_requestJoin 50 = .ok (.iaload, 1) := by decide +kernel
theorem dX5_requestJoin_51 : decode cX5_requestJoin 51 = .ok (.invokestatic 66, 3) := by decide +kernel
theorem dX5_requestJoin_54 : decode cX5_requestJoin 54 = .ok (.ireturn, 1) := by decide +kernel
theorem dX5_requestLeave_0 : decode cX5_requestLeave 0 = .ok (.aload_n 0, 1) := by decide +kernel
theorem dX5_requestLeave_1 : decode cX5_requestLeave 1 = .ok (.iload_n 1, 1) := by decide +kernel
theorem dX5_requestLeave_2 : decode cX5_requestLeave 2 = .ok (.invokevirtual 63, 3) := by decide +kernel
theorem dX5_requestLeave_5 : decode cX5_requestLeave 5 = .ok (.ifCond .ne 5, 3) := by decide +kernel
theorem dX5_requestLeave_8 : decode cX5_requestLeave 8 = .ok (.iconst 0, 1) := by decide +kernel
theorem dX5_requestLeave_9 : decode cX5_requestLeave 9 = .ok (.ireturn, 1) := by decide +kernel
theorem dX5_requestLeave_10 : decode cX5_requestLeave 10 = .ok (.aload_n 0, 1) := by decide +kernel
theorem dX5_requestLeave_11 : decode cX5_requestLeave 11 = .ok (.getfield 9, 3) := by decide +kernel
theorem dX5_requestLeave_14 : decode cX5_requestLeave 14 = .ok (.bipush 43, 2) := by decide +kernel
theorem dX5_requestLeave_16 : decode cX5_requestLeave 16 = .ok (.iaload, 1) := by decide +kernel
theorem dX5_requestLeave_17 : decode cX5_requestLeave 17 = .ok (.iconst 1, 1) := by decide +kernel
theorem dX5_requestLeave_18 : decode cX5_requestLeave 18 = .ok (.iload_n 1, 1) := by decide +kernel
theorem dX5_requestLeave_19 : decode cX5_requestLeave 19 = .ok (.ishl, 1) := by decide +kernel
theorem dX5_requestLeave_20 : decode cX5_requestLeave 20 = .ok (.iconst (-1), 1) := by decide +kernel
theorem dX5_requestLeave_21 : decode cX5_requestLeave 21 = .ok (.ixor, 1) := by decide +kernel
theorem dX5_requestLeave_22 : decode cX5_requestLeave 22 = .ok (.iand, 1) := by decide +kernel
theorem dX5_requestLeave_23 : decode cX5_requestLeave 23 = .ok (.istore_n 2, 1) := by decide +kernel
theorem dX5_requestLeave_24 : decode cX5_requestLeave 24 = .ok (.iload_n 2, 1) := by decide +kernel
theorem dX5_requestLeave_25 : decode cX5_requestLeave 25 = .ok (.aload_n 0, 1) := by decide +kernel
theorem dX5_requestLeave_26 : decode cX5_requestLeave 26 = .ok (.getfield 9, 3) := by decide +kernel
theorem dX5_requestLeave_29 : decode cX5_requestLeave 29 = .ok (.bipush 43, 2) := by decide +kernel
theorem dX5_requestLeave_31 : decode cX5_requestLeave 31 = .ok (.iaload, 1) := by decide +kernel
theorem dX5_requestLeave_32 : decode cX5_requestLeave 32 = .ok (.if_icmp .eq 12, 3) := by decide +kernel
theorem dX5_requestLeave_35 : decode cX5_requestLeave 35 = .ok (.iload_n 2, 1) := by decide +kernel
theorem dX5_requestLeave_36 : decode cX5_requestLeave 36 = .ok (.aload_n 0, 1) := by decide +kernel
theorem dX5_requestLeave_37 : decode cX5_requestLeave 37 = .ok (.invokevirtual 45, 3) := by decide +kernel
theorem dX5_requestLeave_40 : decode cX5_requestLeave 40 = .ok (.iand, 1) := by decide +kernel
theorem dX5_requestLeave_41 : decode cX5_requestLeave 41 = .ok (.ifCond .ne 9, 3) := by decide +kernel
theorem dX5_requestLeave_44 : decode cX5_requestLeave 44 = .ok (.aload_n 0, 1) := by decide +kernel
theorem dX5_requestLeave_45 : decode cX5_requestLeave 45 = .ok (.iconst 2, 1) := by decide +kernel
theorem dX5_requestLeave_46 : decode cX5_requestLeave 46 = .ok (.invokevirtual 59, 3) := by decide +kernel
theorem dX5_requestLeave_49 : decode cX5_requestLeave 49 = .ok (.ireturn, 1) := by decide +kernel
theorem dX5_requestLeave_50 : decode cX5_requestLeave 50 = .ok (.aload_n 0, 1) := by decide +kernel
theorem dX5_requestLeave_51 : decode cX5_requestLeave 51 = .ok (.getfield 9, 3) := by decide +kernel
theorem dX5_requestLeave_54 : decode cX5_requestLeave 54 = .ok (.bipush 43, 2) := by decide +kernel
theorem dX5_requestLeave_56 : decode cX5_requestLeave 56 = .ok (.iload_n 2, 1) := by decide +kernel
theorem dX5_requestLeave_57 : decode cX5_requestLeave 57 = .ok (.iastore, 1) := by decide +kernel
theorem dX5_requestLeave_58 : decode cX5_requestLeave 58 = .ok (.iload_n 2, 1) := by decide +kernel
theorem dX5_requestLeave_59 : decode cX5_requestLeave 59 = .ok (.invokestatic 66, 3) := by decide +kernel
theorem dX5_requestLeave_62 : decode cX5_requestLeave 62 = .ok (.ireturn, 1) := by decide +kernel
theorem dX5_clockOf_0 : decode cX5_clockOf 0 = .ok (.aload_n 0, 1) := by decide +kernel
theorem dX5_clockOf_1 : decode cX5_clockOf 1 = .ok (.getfield 9, 3) := by decide +kernel
theorem dX5_clockOf_4 : decode cX5_clockOf 4 = .ok (.sipush 4270, 3) := by decide +kernel
theorem dX5_clockOf_7 : decode cX5_clockOf 7 = .ok (.bipush 36, 2) := by decide +kernel
theorem dX5_clockOf_9 : decode cX5_clockOf 9 = .ok (.iload_n 1, 1) := by decide +kernel
theorem dX5_clockOf_10 : decode cX5_clockOf 10 = .ok (.imul, 1) := by decide +kernel
theorem dX5_clockOf_11 : decode cX5_clockOf 11 = .ok (.iadd, 1) := by decide +kernel
theorem dX5_clockOf_12 : decode cX5_clockOf 12 = .ok (.bipush 6, 2) := by decide +kernel
theorem dX5_clockOf_14 : decode cX5_clockOf 14 = .ok (.iload_n 1, 1) := by decide +kernel
theorem dX5_clockOf_15 : decode cX5_clockOf 15 = .ok (.imul, 1) := by decide +kernel
theorem dX5_clockOf_16 : decode cX5_clockOf 16 = .ok (.iadd, 1) := by decide +kernel
theorem dX5_clockOf_17 : decode cX5_clockOf 17 = .ok (.iload_n 2, 1) := by decide +kernel
theorem dX5_clockOf_18 : decode cX5_clockOf 18 = .ok (.iadd, 1) := by decide +kernel
theorem dX5_clockOf_19 : decode cX5_clockOf 19 = .ok (.iaload, 1) := by decide +kernel
theorem dX5_clockOf_20 : decode cX5_clockOf 20 = .ok (.ireturn, 1) := by decide +kernel
theorem dX5_isLogged_0 : decode cX5_isLogged 0 = .ok (.aload_n 0, 1) := by decide +kernel
theorem dX5_isLogged_1 : decode cX5_isLogged 1 = .ok (.getfield 9, 3) := by decide +kernel
theorem dX5_isLogged_4 : decode cX5_isLogged 4 = .ok (.sipush 2460, 3) := by decide +kernel
theorem dX5_isLogged_7 : decode cX5_isLogged 7 = .ok (.sipush 150, 3) := by decide +kernel
theorem dX5_isLogged_10 : decode cX5_isLogged 10 = .ok (.iload_n 1, 1) := by decide +kernel
theorem dX5_isLogged_11 : decode cX5_isLogged 11 = .ok (.imul, 1) := by decide +kernel
theorem dX5_isLogged_12 : decode cX5_isLogged 12 = .ok (.iadd, 1) := by decide +kernel
theorem dX5_isLogged_13 : decode cX5_isLogged 13 = .ok (.iload_n 2, 1) := by decide +kernel
theorem dX5_isLogged_14 : decode cX5_isLogged 14 = .ok (.iadd, 1) := by decide +kernel
theorem dX5_isLogged_15 : decode cX5_isLogged 15 = .ok (.iaload, 1) := by decide +kernel
theorem dX5_isLogged_16 : decode cX5_isLogged 16 = .ok (.iconst 1, 1) := by decide +kernel
theorem dX5_isLogged_17 : decode cX5_isLogged 17 = .ok (.if_icmp .ne 7, 3) := by decide +kernel
theorem dX5_isLogged_20 : decode cX5_isLogged 20 = .ok (.iconst 1, 1) := by decide +kernel
theorem dX5_isLogged_21 : decode cX5_isLogged 21 = .ok (.goto 4, 3) := by decide +kernel
theorem dX5_isLogged_24 : decode cX5_isLogged 24 = .ok (.iconst 0, 1) := by decide +kernel
theorem dX5_isLogged_25 : decode cX5_isLogged 25 = .ok (.ireturn, 1) := by decide +kernel
theorem dX5_isNow_0 : decode cX5_isNow 0 = .ok (.aload_n 0, 1) := by decide +kernel
theorem dX5_isNow_1 : decode cX5_isNow 1 = .ok (.getfield 9, 3) := by decide +kernel
theorem dX5_isNow_4 : decode cX5_isNow 4 = .ok (.sipush 350, 3) := by decide +kernel
theorem dX5_isNow_7 : decode cX5_isNow 7 = .ok (.iload_n 1, 1) := by decide +kernel
theorem dX5_isNow_8 : decode cX5_isNow 8 = .ok (.iadd, 1) := by decide +kernel
theorem dX5_isNow_9 : decode cX5_isNow 9 = .ok (.iaload, 1) := by decide +kernel
theorem dX5_isNow_10 : decode cX5_isNow 10 = .ok (.aload_n 0, 1) := by decide +kernel
theorem dX5_isNow_11 : decode cX5_isNow 11 = .ok (.getfield 9, 3) := by decide +kernel
theorem dX5_isNow_14 : decode cX5_isNow 14 = .ok (.bipush 42, 2) := by decide +kernel
theorem dX5_isNow_16 : decode cX5_isNow 16 = .ok (.iaload, 1) := by decide +kernel
theorem dX5_isNow_17 : decode cX5_isNow 17 = .ok (.if_icmp .ne 7, 3) := by decide +kernel
theorem dX5_isNow_20 : decode cX5_isNow 20 = .ok (.iconst 1, 1) := by decide +kernel
theorem dX5_isNow_21 : decode cX5_isNow 21 = .ok (.goto 4, 3) := by decide +kernel
theorem dX5_isNow_24 : decode cX5_isNow 24 = .ok (.iconst 0, 1) := by decide +kernel
theorem dX5_isNow_25 : decode cX5_isNow 25 = .ok (.ireturn, 1) := by decide +kernel
theorem dX5_isDeliverable_0 : decode cX5_isDeliverable 0 = .ok (.aload_n 0, 1) := by decide +kernel
theorem dX5_isDeliverable_1 : decode cX5_isDeliverable 1 = .ok (.iload_n 2, 1) := by decide +kernel
theorem dX5_isDeliverable_2 : decode cX5_isDeliverable 2 = .ok (.invokevirtual 69, 3) := by decide +kernel
theorem dX5_isDeliverable_5 : decode cX5_isDeliverable 5 = .ok (.ifCond .eq 12, 3) := by decide +kernel
theorem dX5_isDeliverable_8 : decode cX5_isDeliverable 8 = .ok (.aload_n 0, 1) := by decide +kernel
theorem dX5_isDeliverable_9 : decode cX5_isDeliverable 9 = .ok (.iload_n 1, 1) := by decide +kernel
theorem dX5_isDeliverable_10 : decode cX5_isDeliverable 10 = .ok (.iload_n 2, 1) := by decide +kernel
theorem dX5_isDeliverable_11 : decode cX5_isDeliverable 11 = .ok (.invokevirtual 72, 3) := by decide +kernel
theorem dX5_isDeliverable_14 : decode cX5_isDeliverable 14 = .ok (.ifCond .eq 5, 3) := by decide +kernel
theorem dX5_isDeliverable_17 : decode cX5_isDeliverable 17 = .ok (.iconst 0, 1) := by decide +kernel
theorem dX5_isDeliverable_18 : decode cX5_isDeliverable 18 = .ok (.ireturn, 1) := by decide +kernel
theorem dX5_isDeliverable_19 : decode cX5_isDeliverable 19 = .ok (.aload_n 0, 1) := by decide +kernel
theorem dX5_isDeliverable_20 : decode cX5_isDeliverable 20 = .ok (.getfield 9, 3) := by decide +kernel
theorem dX5_isDeliverable_23 : decode cX5_isDeliverable 23 = .ok (.bipush 50, 2) := by decide +kernel
theorem dX5_isDeliverable_25 : decode cX5_isDeliverable 25 = .ok (.iload_n 2, 1) := by decide +kernel
theorem dX5_isDeliverable_26 : decode cX5_isDeliverable 26 = .ok (.iadd, 1) := by decide +kernel
theorem dX5_isDeliverable_27 : decode cX5_isDeliverable 27 = .ok (.iaload, 1) := by decide +kernel
theorem dX5_isDeliverable_28 : decode cX5_isDeliverable 28 = .ok (.istore_n 3, 1) := by decide +kernel
theorem dX5_isDeliverable_29 : decode cX5_isDeliverable 29 = .ok (.iconst 0, 1) := by decide +kernel
theorem dX5_isDeliverable_30 : decode cX5_isDeliverable 30 = .ok (.istore 4, 2) := by decide +kernel
theorem dX5_isDeliverable_32 : decode cX5_isDeliverable 32 = .ok (.iload 4, 2) := by decide +kernel
theorem dX5_isDeliverable_34 : decode cX5_isDeliverable 34 = .ok (.bipush 6, 2) := by decide +kernel
theorem dX5_isDeliverable_36 : decode cX5_isDeliverable 36 = .ok (.if_icmp .ge 43, 3) := by decide +kernel
theorem dX5_isDeliverable_39 : decode cX5_isDeliverable 39 = .ok (.iload 4, 2) := by decide +kernel
theorem dX5_isDeliverable_41 : decode cX5_isDeliverable 41 = .ok (.iload_n 3, 1) := by decide +kernel
theorem dX5_isDeliverable_42 : decode cX5_isDeliverable 42 = .ok (.if_icmp .eq 31, 3) := by decide +kernel
theorem dX5_isDeliverable_45 : decode cX5_isDeliverable 45 = .ok (.aload_n 0, 1) := by decide +kernel
theorem dX5_isDeliverable_46 : decode cX5_isDeliverable 46 = .ok (.getfield 9, 3) := by decide +kernel
theorem dX5_isDeliverable_49 : decode cX5_isDeliverable 49 = .ok (.sipush 650, 3) := by decide +kernel
theorem dX5_isDeliverable_52 : decode cX5_isDeliverable 52 = .ok (.bipush 6, 2) := by decide +kernel
theorem dX5_isDeliverable_54 : decode cX5_isDeliverable 54 = .ok (.iload_n 2, 1) := by decide +kernel
theorem dX5_isDeliverable_55 : decode cX5_isDeliverable 55 = .ok (.imul, 1) := by decide +kernel
theorem dX5_isDeliverable_56 : decode cX5_isDeliverable 56 = .ok (.iadd, 1) := by decide +kernel
theorem dX5_isDeliverable_57 : decode cX5_isDeliverable 57 = .ok (.iload 4, 2) := by decide +kernel
theorem dX5_isDeliverable_59 : decode cX5_isDeliverable 59 = .ok (.iadd, 1) := by decide +kernel
theorem dX5_isDeliverable_60 : decode cX5_isDeliverable 60 = .ok (.iaload, 1) := by decide +kernel
theorem dX5_isDeliverable_61 : decode cX5_isDeliverable 61 = .ok (.aload_n 0, 1) := by decide +kernel
theorem dX5_isDeliverable_62 : decode cX5_isDeliverable 62 = .ok (.iload_n 1, 1) := by decide +kernel
theorem dX5_isDeliverable_63 : decode cX5_isDeliverable 63 = .ok (.iload 4, 2) := by decide +kernel
theorem dX5_isDeliverable_65 : decode cX5_isDeliverable 65 = .ok (.invokevirtual 76, 3) := by decide +kernel
theorem dX5_isDeliverable_68 : decode cX5_isDeliverable 68 = .ok (.if_icmp .le 5, 3) := by decide +kernel
theorem dX5_isDeliverable_71 : decode cX5_isDeliverable 71 = .ok (.iconst 0, 1) := by decide +kernel
theorem dX5_isDeliverable_72 : decode cX5_isDeliverable 72 = .ok (.ireturn, 1) := by decide +kernel
theorem dX5_isDeliverable_73 : decode cX5_isDeliverable 73 = .ok (.iinc 4 1, 3) := by decide +kernel
theorem dX5_isDeliverable_76 : decode cX5_isDeliverable 76 = .ok (.goto (-44), 3) := by decide +kernel
theorem dX5_isDeliverable_79 : decode cX5_isDeliverable 79 = .ok (.aload_n 0, 1) := by decide +kernel
theorem dX5_isDeliverable_80 : decode cX5_isDeliverable 80 = .ok (.getfield 9, 3) := by decide +kernel
theorem dX5_isDeliverable_83 : decode cX5_isDeliverable 83 = .ok (.sipush 500, 3) := by decide +kernel
theorem dX5_isDeliverable_86 : decode cX5_isDeliverable 86 = .ok (.iload_n 2, 1) := by decide +kernel
theorem dX5_isDeliverable_87 : decode cX5_isDeliverable 87 = .ok (.iadd, 1) := by decide +kernel
theorem dX5_isDeliverable_88 : decode cX5_isDeliverable 88 = .ok (.iaload, 1) := by decide +kernel
theorem dX5_isDeliverable_89 : decode cX5_isDeliverable 89 = .ok (.aload_n 0, 1) := by decide +kernel
theorem dX5_isDeliverable_90 : decode cX5_isDeliverable 90 = .ok (.iload_n 1, 1) := by decide +kernel
theorem dX5_isDeliverable_91 : decode cX5_isDeliverable 91 = .ok (.iload_n 3, 1) := by decide +kernel
theorem dX5_isDeliverable_92 : decode cX5_isDeliverable 92 = .ok (.invokevirtual 76, 3) := by decide +kernel
theorem dX5_isDeliverable_95 : decode cX5_isDeliverable 95 = .ok (.iconst 1, 1) := by decide +kernel
theorem dX5_isDeliverable_96 : decode cX5_isDeliverable 96 = .ok (.iadd, 1) := by decide +kernel
theorem dX5_isDeliverable_97 : decode cX5_isDeliverable 97 = .ok (.if_icmp .ne 7, 3) := by decide +kernel
theorem dX5_isDeliverable_100 : decode cX5_isDeliverable 100 = .ok (.iconst 1, 1) := by decide +kernel
theorem dX5_isDeliverable_101 : decode cX5_isDeliverable 101 = .ok (.goto 4, 3) := by decide +kernel
theorem dX5_isDeliverable_104 : decode cX5_isDeliverable 104 = .ok (.iconst 0, 1) := by decide +kernel
theorem dX5_isDeliverable_105 : decode cX5_isDeliverable 105 = .ok (.ireturn, 1) := by decide +kernel
theorem dX5_logs_0 : decode cX5_logs 0 = .ok (.aload_n 0, 1) := by decide +kernel
theorem dX5_logs_1 : decode cX5_logs 1 = .ok (.getfield 9, 3) := by decide +kernel
theorem dX5_logs_4 : decode cX5_logs 4 = .ok (.sipush 1560, 3) := by decide +kernel
theorem dX5_logs_7 : decode cX5_logs 7 = .ok (.sipush 150, 3) := by decide +kernel
theorem dX5_logs_10 : decode cX5_logs 10 = .ok (.iload_n 1, 1) := by decide +kernel
theorem dX5_logs_11 : decode cX5_logs 11 = .ok (.imul, 1) := by decide +kernel
theorem dX5_logs_12 : decode cX5_logs 12 = .ok (.iadd, 1) := by decide +kernel
theorem dX5_logs_13 : decode cX5_logs 13 = .ok (.aload_n 0, 1) := by decide +kernel
theorem dX5_logs_14 : decode cX5_logs 14 = .ok (.getfield 9, 3) := by decide +kernel
theorem dX5_logs_17 : decode cX5_logs 17 = .ok (.sipush 1550, 3) := by decide +kernel
theorem dX5_logs_20 : decode cX5_logs 20 = .ok (.iload_n 1, 1) := by decide +kernel
theorem dX5_logs_21 : decode cX5_logs 21 = .ok (.iadd, 1) := by decide +kernel
theorem dX5_logs_22 : decode cX5_logs 22 = .ok (.iaload, 1) := by decide +kernel
theorem dX5_logs_23 : decode cX5_logs 23 = .ok (.iadd, 1) := by decide +kernel
theorem dX5_logs_24 : decode cX5_logs 24 = .ok (.iload_n 2, 1) := by decide +kernel
theorem dX5_logs_25 : decode cX5_logs 25 = .ok (.iastore, 1) := by decide +kernel
theorem dX5_logs_26 : decode cX5_logs 26 = .ok (.aload_n 0, 1) := by decide +kernel
theorem dX5_logs_27 : decode cX5_logs 27 = .ok (.getfield 9, 3) := by decide +kernel
theorem dX5_logs_30 : decode cX5_logs 30 = .ok (.sipush 1550, 3) := by decide +kernel
theorem dX5_logs_33 : decode cX5_logs 33 = .ok (.iload_n 1, 1) := by decide +kernel
theorem dX5_logs_34 : decode cX5_logs 34 = .ok (.iadd, 1) := by decide +kernel
theorem dX5_logs_35 : decode cX5_logs 35 = .ok (.dup2, 1) := by decide +kernel
theorem dX5_logs_36 : decode cX5_logs 36 = .ok (.iaload, 1) := by decide +kernel
theorem dX5_logs_37 : decode cX5_logs 37 = .ok (.iconst 1, 1) := by decide +kernel
theorem dX5_logs_38 : decode cX5_logs 38 = .ok (.iadd, 1) := by decide +kernel
theorem dX5_logs_39 : decode cX5_logs 39 = .ok (.iastore, 1) := by decide +kernel
theorem dX5_logs_40 : decode cX5_logs 40 = .ok (.aload_n 0, 1) := by decide +kernel
theorem dX5_logs_41 : decode cX5_logs 41 = .ok (.getfield 9, 3) := by decide +kernel
theorem dX5_logs_44 : decode cX5_logs 44 = .ok (.sipush 2460, 3) := by decide +kernel
theorem dX5_logs_47 : decode cX5_logs 47 = .ok (.sipush 150, 3) := by decide +kernel
theorem dX5_logs_50 : decode cX5_logs 50 = .ok (.iload_n 1, 1) := by decide +kernel
theorem dX5_logs_51 : decode cX5_logs 51 = .ok (.imul, 1) := by decide +kernel
theorem dX5_logs_52 : decode cX5_logs 52 = .ok (.iadd, 1) := by decide +kernel
theorem dX5_logs_53 : decode cX5_logs 53 = .ok (.iload_n 2, 1) := by decide +kernel
theorem dX5_logs_54 : decode cX5_logs 54 = .ok (.iadd, 1) := by decide +kernel
theorem dX5_logs_55 : decode cX5_logs 55 = .ok (.iconst 1, 1) := by decide +kernel
theorem dX5_logs_56 : decode cX5_logs 56 = .ok (.iastore, 1) := by decide +kernel
theorem dX5_logs_57 : decode cX5_logs 57 = .ok (.return_, 1) := by decide +kernel
theorem dX5_delivers_0 : decode cX5_delivers 0 = .ok (.aload_n 0, 1) := by decide +kernel
theorem dX5_delivers_1 : decode cX5_delivers 1 = .ok (.getfield 9, 3) := by decide +kernel
theorem dX5_delivers_4 : decode cX5_delivers 4 = .ok (.bipush 50, 2) := by decide +kernel
theorem dX5_delivers_6 : decode cX5_delivers 6 = .ok (.iload_n 2, 1) := by decide +kernel
theorem dX5_delivers_7 : decode cX5_delivers 7 = .ok (.iadd, 1) := by decide +kernel
theorem dX5_delivers_8 : decode cX5_delivers 8 = .ok (.iaload, 1) := by decide +kernel
theorem dX5_delivers_9 : decode cX5_delivers 9 = .ok (.istore_n 3, 1) := by decide +kernel
theorem dX5_delivers_10 : decode cX5_delivers 10 = .ok (.aload_n 0, 1) := by decide +kernel
theorem dX5_delivers_11 : decode cX5_delivers 11 = .ok (.iload_n 1, 1) := by decide +kernel
theorem dX5_delivers_12 : decode cX5_delivers 12 = .ok (.iload_n 2, 1) := by decide +kernel
theorem dX5_delivers_13 : decode cX5_delivers 13 = .ok (.invokevirtual 80, 3) := by decide +kernel
theorem dX5_delivers_16 : decode cX5_delivers 16 = .ok (.aload_n 0, 1) := by decide +kernel
theorem dX5_delivers_17 : decode cX5_delivers 17 = .ok (.getfield 9, 3) := by decide +kernel
theorem dX5_delivers_20 : decode cX5_delivers 20 = .ok (.sipush 4260, 3) := by decide +kernel
theorem dX5_delivers_23 : decode cX5_delivers 23 = .ok (.iload_n 1, 1) := by decide +kernel
theorem dX5_delivers_24 : decode cX5_delivers 24 = .ok (.iadd, 1) := by decide +kernel
theorem dX5_delivers_25 : decode cX5_delivers 25 = .ok (.bipush 31, 2) := by decide +kernel
theorem dX5_delivers_27 : decode cX5_delivers 27 = .ok (.aload_n 0, 1) := by decide +kernel
theorem dX5_delivers_28 : decode cX5_delivers 28 = .ok (.getfield 9, 3) := by decide +kernel
theorem dX5_delivers_31 : decode cX5_delivers 31 = .ok (.sipush 4260, 3) := by decide +kernel
theorem dX5_delivers_34 : decode cX5_delivers 34 = .ok (.iload_n 1, 1) := by decide +kernel
theorem dX5_delivers_35 : decode cX5_delivers 35 = .ok (.iadd, 1) := by decide +kernel
theorem dX5_delivers_36 : decode cX5_delivers 36 = .ok (.iaload, 1) := by decide +kernel
theorem dX5_delivers_37 : decode cX5_delivers 37 = .ok (.imul, 1) := by decide +kernel
theorem dX5_delivers_38 : decode cX5_delivers 38 = .ok (.aload_n 0, 1) := by decide +kernel
theorem dX5_delivers_39 : decode cX5_delivers 39 = .ok (.getfield 9, 3) := by decide +kernel
theorem dX5_delivers_42 : decode cX5_delivers 42 = .ok (.sipush 200, 3) := by decide +kernel
theorem dX5_delivers_45 : decode cX5_delivers 45 = .ok (.iload_n 2, 1) := by decide +kernel
theorem dX5_delivers_46 : decode cX5_delivers 46 = .ok (.iadd, 1) := by decide +kernel
theorem dX5_delivers_47 : decode cX5_delivers 47 = .ok (.iaload, 1) := by decide +kernel
theorem dX5_delivers_48 : decode cX5_delivers 48 = .ok (.iadd, 1) := by decide +kernel
theorem dX5_delivers_49 : decode cX5_delivers 49 = .ok (.iastore, 1) := by decide +kernel
theorem dX5_delivers_50 : decode cX5_delivers 50 = .ok (.aload_n 0, 1) := by decide +kernel
theorem dX5_delivers_51 : decode cX5_delivers 51 = .ok (.getfield 9, 3) := by decide +kernel
theorem dX5_delivers_54 : decode cX5_delivers 54 = .ok (.sipush 4270, 3) := by decide +kernel
theorem dX5_delivers_57 : decode cX5_delivers 57 = .ok (.bipush 42, 2) := by decide +kernel
theorem dX5_delivers_59 : decode cX5_delivers 59 = .ok (.iload_n 1, 1) := by decide +kernel
theorem dX5_delivers_60 : decode cX5_delivers 60 = .ok (.imul, 1) := by decide +kernel
theorem dX5_delivers_61 : decode cX5_delivers 61 = .ok (.iadd, 1) := by decide +kernel
theorem dX5_delivers_62 : decode cX5_delivers 62 = .ok (.iload_n 3, 1) := by decide +kernel
theorem dX5_delivers_63 : decode cX5_delivers 63 = .ok (.iadd, 1) := by decide +kernel
theorem dX5_delivers_64 : decode cX5_delivers 64 = .ok (.dup2, 1) := by decide +kernel
theorem dX5_delivers_65 : decode cX5_delivers 65 = .ok (.iaload, 1) := by decide +kernel
theorem dX5_delivers_66 : decode cX5_delivers 66 = .ok (.iconst 1, 1) := by decide +kernel
theorem dX5_delivers_67 : decode cX5_delivers 67 = .ok (.iadd, 1) := by decide +kernel
theorem dX5_delivers_68 : decode cX5_delivers 68 = .ok (.iastore, 1) := by decide +kernel
theorem dX5_delivers_69 : decode cX5_delivers 69 = .ok (.iconst 0, 1) := by decide +kernel
theorem dX5_delivers_70 : decode cX5_delivers 70 = .ok (.istore 4, 2) := by decide +kernel
theorem dX5_delivers_72 : decode cX5_delivers 72 = .ok (.iload 4, 2) := by decide +kernel
theorem dX5_delivers_74 : decode cX5_delivers 74 = .ok (.bipush 6, 2) := by decide +kernel
theorem dX5_delivers_76 : decode cX5_delivers 76 = .ok (.if_icmp .ge 91, 3) := by decide +kernel
theorem dX5_delivers_79 : decode cX5_delivers 79 = .ok (.iload_n 3, 1) := by decide +kernel
theorem dX5_delivers_80 : decode cX5_delivers 80 = .ok (.iload_n 1, 1) := by decide +kernel
theorem dX5_delivers_81 : decode cX5_delivers 81 = .ok (.if_icmp .eq 86, 3) := by decide +kernel
theorem dX5_delivers_84 : decode cX5_delivers 84 = .ok (.sipush 4270, 3) := by decide +kernel
theorem dX5_delivers_87 : decode cX5_delivers 87 = .ok (.bipush 36, 2) := by decide +kernel
theorem dX5_delivers_89 : decode cX5_delivers 89 = .ok (.iload_n 1, 1) := by decide +kernel
theorem dX5_delivers_90 : decode cX5_delivers 90 = .ok (.imul, 1) := by decide +kernel
theorem dX5_delivers_91 : decode cX5_delivers 91 = .ok (.iadd, 1) := by decide +kernel
theorem dX5_delivers_92 : decode cX5_delivers 92 = .ok (.bipush 6, 2) := by decide +kernel
theorem dX5_delivers_94 : decode cX5_delivers 94 = .ok (.iload_n 3, 1) := by decide +kernel
theorem dX5_delivers_95 : decode cX5_delivers 95 = .ok (.imul, 1) := by decide +kernel
theorem dX5_delivers_96 : decode cX5_delivers 96 = .ok (.iadd, 1) := by decide +kernel
theorem dX5_delivers_97 : decode cX5_delivers 97 = .ok (.iload 4, 2) := by decide +kernel
theorem dX5_delivers_99 : decode cX5_delivers 99 = .ok (.iadd, 1) := by decide +kernel
theorem dX5_delivers_100 : decode cX5_delivers 100 = .ok (.istore 5, 2) := by decide +kernel
theorem dX5_delivers_102 : decode cX5_delivers 102 = .ok (.aload_n 0, 1) := by decide +kernel
theorem dX5_delivers_103 : decode cX5_delivers 103 = .ok (.getfield 9, 3) := by decide +kernel
theorem dX5_delivers_106 : decode cX5_delivers 106 = .ok (.iload 5, 2) := by decide +kernel
theorem dX5_delivers_108 : decode cX5_delivers 108 = .ok (.aload_n 0, 1) := by decide +kernel
theorem dX5_delivers_109 : decode cX5_delivers 109 = .ok (.getfield 9, 3) := by decide +kernel
theorem dX5_delivers_112 : decode cX5_delivers 112 = .ok (.sipush 650, 3) := by decide +kernel
theorem dX5_delivers_115 : decode cX5_delivers 115 = .ok (.bipush 6, 2) := by decide +kernel
theorem dX5_delivers_117 : decode cX5_delivers 117 = .ok (.iload_n 2, 1) := by decide +kernel
theorem dX5_delivers_118 : decode cX5_delivers 118 = .ok (.imul, 1) := by decide +kernel
theorem dX5_delivers_119 : decode cX5_delivers 119 = .ok (.iadd, 1) := by decide +kernel
theorem dX5_delivers_120 : decode cX5_delivers 120 = .ok (.iload 4, 2) := by decide +kernel
theorem dX5_delivers_122 : decode cX5_delivers 122 = .ok (.iadd, 1) := by decide +kernel
theorem dX5_delivers_123 : decode cX5_delivers 123 = .ok (.iaload, 1) := by decide +kernel
theorem dX5_delivers_124 : decode cX5_delivers 124 = .ok (.aload_n 0, 1) := by decide +kernel
theorem dX5_delivers_125 : decode cX5_delivers 125 = .ok (.getfield 9, 3) := by decide +kernel
theorem dX5_delivers_128 : decode cX5_delivers 128 = .ok (.iload 5, 2) := by decide +kernel
theorem dX5_delivers_130 : decode cX5_delivers 130 = .ok (.iaload, 1) := by decide +kernel
theorem dX5_delivers_131 : decode cX5_delivers 131 = .ok (.if_icmp .le 22, 3) := by decide +kernel
theorem dX5_delivers_134 : decode cX5_delivers 134 = .ok (.aload_n 0, 1) := by decide +kernel
theorem dX5_delivers_135 : decode cX5_delivers 135 = .ok (.getfield 9, 3) := by decide +kernel
theorem dX5_delivers_138 : decode cX5_delivers 138 = .ok (.sipush 650, 3) := by decide +kernel
theorem dX5_delivers_141 : decode cX5_delivers 141 = .ok (.bipush 6, 2) := by decide +kernel
theorem dX5_delivers_143 : decode cX5_delivers 143 = .ok (.iload_n 2, 1) := by decide +kernel
theorem dX5_delivers_144 : decode cX5_delivers 144 = .ok (.imul, 1) := by decide +kernel
theorem dX5_delivers_145 : decode cX5_delivers 145 = .ok (.iadd, 1) := by decide +kernel
theorem dX5_delivers_146 : decode cX5_delivers 146 = .ok (.iload 4, 2) := by decide +kernel
theorem dX5_delivers_148 : decode cX5_delivers 148 = .ok (.iadd, 1) := by decide +kernel
theorem dX5_delivers_149 : decode cX5_delivers 149 = .ok (.iaload, 1) := by decide +kernel
theorem dX5_delivers_150 : decode cX5_delivers 150 = .ok (.goto 10, 3) := by decide +kernel
theorem dX5_delivers_153 : decode cX5_delivers 153 = .ok (.aload_n 0, 1) := by decide +kernel
theorem dX5_delivers_154 : decode cX5_delivers 154 = .ok (.getfield 9, 3) := by decide +kernel
theorem dX5_delivers_157 : decode cX5_delivers 157 = .ok (.iload 5, 2) := by decide +kernel
theorem dX5_delivers_159 : decode cX5_delivers 159 = .ok (.iaload, 1) := by decide +kernel
theorem dX5_delivers_160 : decode cX5_delivers 160 = .ok (.iastore, 1) := by decide +kernel
theorem dX5_delivers_161 : decode cX5_delivers 161 = .ok (.iinc 4 1, 3) := by decide +kernel
theorem dX5_delivers_164 : decode cX5_delivers 164 = .ok (.goto (-92), 3) := by decide +kernel
theorem dX5_delivers_167 : decode cX5_delivers 167 = .ok (.return_, 1) := by decide +kernel
theorem dX5_isHeld_0 : decode cX5_isHeld 0 = .ok (.iconst 0, 1) := by decide +kernel
theorem dX5_isHeld_1 : decode cX5_isHeld 1 = .ok (.istore_n 3, 1) := by decide +kernel
theorem dX5_isHeld_2 : decode cX5_isHeld 2 = .ok (.iload_n 3, 1) := by decide +kernel
theorem dX5_isHeld_3 : decode cX5_isHeld 3 = .ok (.bipush 6, 2) := by decide +kernel
theorem dX5_isHeld_5 : decode cX5_isHeld 5 = .ok (.if_icmp .ge 29, 3) := by decide +kernel
theorem dX5_isHeld_8 : decode cX5_isHeld 8 = .ok (.iload_n 2, 1) := by decide +kernel
theorem dX5_isHeld_9 : decode cX5_isHeld 9 = .ok (.iload_n 3, 1) := by decide +kernel
theorem dX5_isHeld_10 : decode cX5_isHeld 10 = .ok (.ishr, 1) := by decide +kernel
theorem dX5_isHeld_11 : decode cX5_isHeld 11 = .ok (.iconst 1, 1) := by decide +kernel
theorem dX5_isHeld_12 : decode cX5_isHeld 12 = .ok (.iand, 1) := by decide +kernel
theorem dX5_isHeld_13 : decode cX5_isHeld 13 = .ok (.iconst 1, 1) := by decide +kernel
theorem dX5_isHeld_14 : decode cX5_isHeld 14 = .ok (.if_icmp .ne 14, 3) := by decide +kernel
theorem dX5_isHeld_17 : decode cX5_isHeld 17 = .ok (.aload_n 0, 1) := by decide +kernel
theorem dX5_isHeld_18 : decode cX5_isHeld 18 = .ok (.iload_n 3, 1) := by decide +kernel
theorem dX5_isHeld_19 : decode cX5_isHeld 19 = .ok (.iload_n 1, 1) := by decide +kernel
theorem dX5_isHeld_20 : decode cX5_isHeld 20 = .ok (.invokevirtual 72, 3) := by decide +kernel
theorem dX5_isHeld_23 : decode cX5_isHeld 23 = .ok (.ifCond .eq 5, 3) := by decide +kernel
theorem dX5_isHeld_26 : decode cX5_isHeld 26 = .ok (.iconst 1, 1) := by decide +kernel
theorem dX5_isHeld_27 : decode cX5_isHeld 27 = .ok (.ireturn, 1) := by decide +kernel
theorem dX5_isHeld_28 : decode cX5_isHeld 28 = .ok (.iinc 3 1, 3) := by decide +kernel
theorem dX5_isHeld_31 : decode cX5_isHeld 31 = .ok (.goto (-29), 3) := by decide +kernel
theorem dX5_isHeld_34 : decode cX5_isHeld 34 = .ok (.iconst 0, 1) := by decide +kernel
theorem dX5_isHeld_35 : decode cX5_isHeld 35 = .ok (.ireturn, 1) := by decide +kernel
theorem dX5_forces_0 : decode cX5_forces 0 = .ok (.iconst 0, 1) := by decide +kernel
theorem dX5_forces_1 : decode cX5_forces 1 = .ok (.istore_n 3, 1) := by decide +kernel
theorem dX5_forces_2 : decode cX5_forces 2 = .ok (.iconst 1, 1) := by decide +kernel
theorem dX5_forces_3 : decode cX5_forces 3 = .ok (.istore 4, 2) := by decide +kernel
theorem dX5_forces_5 : decode cX5_forces 5 = .ok (.iload 4, 2) := by decide +kernel
theorem dX5_forces_7 : decode cX5_forces 7 = .ok (.ifCond .eq 71, 3) := by decide +kernel
theorem dX5_forces_10 : decode cX5_forces 10 = .ok (.iconst 0, 1) := by decide +kernel
theorem dX5_forces_11 : decode cX5_forces 11 = .ok (.istore 4, 2) := by decide +kernel
theorem dX5_forces_13 : decode cX5_forces 13 = .ok (.iconst 0, 1) := by decide +kernel
theorem dX5_forces_14 : decode cX5_forces 14 = .ok (.istore 5, 2) := by decide +kernel
theorem dX5_forces_16 : decode cX5_forces 16 = .ok (.iload 5, 2) := by decide +kernel
theorem dX5_forces_18 : decode cX5_forces 18 = .ok (.aload_n 0, 1) := by decide +kernel
theorem dX5_forces_19 : decode cX5_forces 19 = .ok (.getfield 9, 3) := by decide +kernel
theorem dX5_forces_22 : decode cX5_forces 22 = .ok (.bipush 44, 2) := by decide +kernel
theorem dX5_forces_24 : decode cX5_forces 24 = .ok (.iaload, 1) := by decide +kernel
theorem dX5_forces_25 : decode cX5_forces 25 = .ok (.if_icmp .ge 50, 3) := by decide +kernel
theorem dX5_forces_28 : decode cX5_forces 28 = .ok (.iload 4, 2) := by decide +kernel
theorem dX5_forces_30 : decode cX5_forces 30 = .ok (.ifCond .ne 45, 3) := by decide +kernel
theorem dX5_forces_33 : decode cX5_forces 33 = .ok (.aload_n 0, 1) := by decide +kernel
theorem dX5_forces_34 : decode cX5_forces 34 = .ok (.iload_n 1, 1) := by decide +kernel
theorem dX5_forces_35 : decode cX5_forces 35 = .ok (.iload 5, 2) := by decide +kernel
theorem dX5_forces_37 : decode cX5_forces 37 = .ok (.invokevirtual 84, 3) := by decide +kernel
theorem dX5_forces_40 : decode cX5_forces 40 = .ok (.ifCond .eq 29, 3) := by decide +kernel
theorem dX5_forces_43 : decode cX5_forces 43 = .ok (.aload_n 0, 1) := by decide +kernel
theorem dX5_forces_44 : decode cX5_forces 44 = .ok (.iload 5, 2) := by decide +kernel
theorem dX5_forces_46 : decode cX5_forces 46 = .ok (.iload_n 2, 1) := by decide +kernel
theorem dX5_forces_47 : decode cX5_forces 47 = .ok (.invokevirtual 87, 3) := by decide +kernel
theorem dX5_forces_50 : decode cX5_forces 50 = .ok (.ifCond .ne 6, 3) := by decide +kernel
theorem dX5_forces_53 : decode cX5_forces 53 = .ok (.goto 16, 3) := by decide +kernel
theorem dX5_forces_56 : decode cX5_forces 56 = .ok (.aload_n 0, 1) := by decide +kernel
theorem dX5_forces_57 : decode cX5_forces 57 = .ok (.iload_n 1, 1) := by decide +kernel
theorem dX5_forces_58 : decode cX5_forces 58 = .ok (.iload 5, 2) := by decide +kernel
theorem dX5_forces_60 : decode cX5_forces 60 = .ok (.invokevirtual 90, 3) := by decide +kernel
theorem dX5_forces_63 : decode cX5_forces 63 = .ok (.iinc 3 1, 3) := by decide +kernel
theorem dX5_forces_66 : decode cX5_forces 66 = .ok (.iconst 1, 1) := by decide +kernel
theorem dX5_forces_67 : decode cX5_forces 67 = .ok (.istore 4, 2) := by decide +kernel
theorem dX5_forces_69 : decode cX5_forces 69 = .ok (.iinc 5 1, 3) := by decide +kernel
theorem dX5_forces_72 : decode cX5_forces 72 = .ok (.goto (-56), 3) := by decide +kernel
theorem dX5_forces_75 : decode cX5_forces 75 = .ok (.goto (-70), 3) := by decide +kernel
theorem dX5_forces_78 : decode cX5_forces 78 = .ok (.iload_n 3, 1) := by decide +kernel
theorem dX5_forces_79 : decode cX5_forces 79 = .ok (.ireturn, 1) := by decide +kernel
theorem dX5_install_0 : decode cX5_install 0 = .ok (.aload_n 0, 1) := by decide +kernel
theorem dX5_install_1 : decode cX5_install 1 = .ok (.iconst 0, 1) := by decide +kernel
theorem dX5_install_2 : decode cX5_install 2 = .ok (.putfield 38, 3) := by decide +kernel
theorem dX5_install_5 : decode cX5_install 5 = .ok (.aload_n 0, 1) := by decide +kernel
theorem dX5_install_6 : decode cX5_install 6 = .ok (.getfield 9, 3) := by decide +kernel
theorem dX5_install_9 : decode cX5_install 9 = .ok (.bipush 42, 2) := by decide +kernel
theorem dX5_install_11 : decode cX5_install 11 = .ok (.iaload, 1) := by decide +kernel
theorem dX5_install_12 : decode cX5_install 12 = .ok (.bipush 20, 2) := by decide +kernel
theorem dX5_install_14 : decode cX5_install 14 = .ok (.if_icmp .ne 9, 3) := by decide +kernel
theorem dX5_install_17 : decode cX5_install 17 = .ok (.aload_n 0, 1) := by decide +kernel
theorem dX5_install_18 : decode cX5_install 18 = .ok (.iconst 1, 1) := by decide +kernel
theorem dX5_install_19 : decode cX5_install 19 = .ok (.invokevirtual 59, 3) := by decide +kernel
theorem dX5_install_22 : decode cX5_install 22 = .ok (.ireturn, 1) := by decide +kernel
theorem dX5_install_23 : decode cX5_install 23 = .ok (.aload_n 0, 1) := by decide +kernel
theorem dX5_install_24 : decode cX5_install 24 = .ok (.invokevirtual 45, 3) := by decide +kernel
theorem dX5_install_27 : decode cX5_install 27 = .ok (.aload_n 0, 1) := by decide +kernel
theorem dX5_install_28 : decode cX5_install 28 = .ok (.getfield 9, 3) := by decide +kernel
theorem dX5_install_31 : decode cX5_install 31 = .ok (.bipush 43, 2) := by decide +kernel
theorem dX5_install_33 : decode cX5_install 33 = .ok (.iaload, 1) := by decide +kernel
theorem dX5_install_34 : decode cX5_install 34 = .ok (.iand, 1) := by decide +kernel
theorem dX5_install_35 : decode cX5_install 35 = .ok (.istore_n 1, 1) := by decide +kernel
theorem dX5_install_36 : decode cX5_install 36 = .ok (.iconst 0, 1) := by decide +kernel
theorem dX5_install_37 : decode cX5_install 37 = .ok (.istore_n 2, 1) := by decide +kernel
theorem dX5_install_38 : decode cX5_install 38 = .ok (.iconst (-1), 1) := by decide +kernel
theorem dX5_install_39 : decode cX5_install 39 = .ok (.istore_n 3, 1) := by decide +kernel
theorem dX5_install_40 : decode cX5_install 40 = .ok (.iconst 5, 1) := by decide +kernel
theorem dX5_install_41 : decode cX5_install 41 = .ok (.istore 4, 2) := by decide +kernel
theorem dX5_install_43 : decode cX5_install 43 = .ok (.iload 4, 2) := by decide +kernel
theorem dX5_install_45 : decode cX5_install 45 = .ok (.ifCond .lt 22, 3) := by decide +kernel
theorem dX5_install_48 : decode cX5_install 48 = .ok (.iload_n 1, 1) := by decide +kernel
theorem dX5_install_49 : decode cX5_install 49 = .ok (.iload 4, 2) := by decide +kernel
theorem dX5_install_51 : decode cX5_install 51 = .ok (.ishr, 1) := by decide +kernel
theorem dX5_install_52 : decode cX5_install 52 = .ok (.iconst 1, 1) := by decide +kernel
theorem dX5_install_53 : decode cX5_install 53 = .ok (.iand, 1) := by decide +kernel
theorem dX5_install_54 : decode cX5_install 54 = .ok (.iconst 1, 1) := by decide +kernel
theorem dX5_install_55 : decode cX5_install 55 = .ok (.if_icmp .ne 6, 3) := by decide +kernel
theorem dX5_install_58 : decode cX5_install 58 = .ok (.iload 4, 2) := by decide +kernel
theorem dX5_install_60 : decode cX5_install 60 = .ok (.istore_n 3, 1) := by decide +kernel
theorem dX5_install_61 : decode cX5_install 61 = .ok (.iinc 4 (-1), 3) := by decide +kernel
theorem dX5_install_64 : decode cX5_install 64 = .ok (.goto (-21), 3) := by decide +kernel
theorem dX5_install_67 : decode cX5_install 67 = .ok (.iconst 0, 1) := by decide +kernel
theorem dX5_install_68 : decode cX5_install 68 = .ok (.istore 4, 2) := by decide +kernel
theorem dX5_install_70 : decode cX5_install 70 = .ok (.iload 4, 2) := by decide +kernel
theorem dX5_install_72 : decode cX5_install 72 = .ok (.bipush 6, 2) := by decide +kernel
theorem dX5_install_74 : decode cX5_install 74 = .ok (.if_icmp .ge 29, 3) := by decide +kernel
theorem dX5_install_77 : decode cX5_install 77 = .ok (.iload_n 1, 1) := by decide +kernel
theorem dX5_install_78 : decode cX5_install 78 = .ok (.iload 4, 2) := by decide +kernel
theorem dX5_install_80 : decode cX5_install 80 = .ok (.ishr, 1) := by decide +kernel
theorem dX5_install_81 : decode cX5_install 81 = .ok (.iconst 1, 1) := by decide +kernel
theorem dX5_install_82 : decode cX5_install 82 = .ok (.iand, 1) := by decide +kernel
theorem dX5_install_83 : decode cX5_install 83 = .ok (.iconst 1, 1) := by decide +kernel
theorem dX5_install_84 : decode cX5_install 84 = .ok (.if_icmp .ne 13, 3) := by decide +kernel
theorem dX5_install_87 : decode cX5_install 87 = .ok (.iload_n 2, 1) := by decide +kernel
theorem dX5_install_88 : decode cX5_install 88 = .ok (.aload_n 0, 1) := by decide +kernel
theorem dX5_install_89 : decode cX5_install 89 = .ok (.iload 4, 2) := by decide +kernel
theorem dX5_install_91 : decode cX5_install 91 = .ok (.iload_n 1, 1) := by decide +kernel
theorem dX5_install_92 : decode cX5_install 92 = .ok (.invokevirtual 93, 3) := by decide +kernel
theorem dX5_install_95 : decode cX5_install 95 = .ok (.iadd, 1) := by decide +kernel
theorem dX5_install_96 : decode cX5_install 96 = .ok (.istore_n 2, 1) := by decide +kernel
theorem dX5_install_97 : decode cX5_install 97 = .ok (.iinc 4 1, 3) := by decide +kernel
theorem dX5_install_100 : decode cX5_install 100 = .ok (.goto (-30), 3) := by decide +kernel
theorem dX5_install_103 : decode cX5_install 103 = .ok (.iconst 0, 1) := by decide +kernel
theorem dX5_install_104 : decode cX5_install 104 = .ok (.istore 4, 2) := by decide +kernel
theorem dX5_install_106 : decode cX5_install 106 = .ok (.iload 4, 2) := by decide +kernel
theorem dX5_install_108 : decode cX5_install 108 = .ok (.bipush 6, 2) := by decide +kernel
theorem dX5_install_110 : decode cX5_install 110 = .ok (.if_icmp .ge 165, 3) := by decide +kernel
theorem dX5_install_113 : decode cX5_install 113 = .ok (.aload_n 0, 1) := by decide +kernel
theorem dX5_install_114 : decode cX5_install 114 = .ok (.getfield 9, 3) := by decide +kernel
theorem dX5_install_117 : decode cX5_install 117 = .ok (.bipush 43, 2) := by decide +kernel
theorem dX5_install_119 : decode cX5_install 119 = .ok (.iaload, 1) := by decide +kernel
theorem dX5_install_120 : decode cX5_install 120 = .ok (.iload 4, 2) := by decide +kernel
theorem dX5_install_122 : decode cX5_install 122 = .ok (.ishr, 1) := by decide +kernel
theorem dX5_install_123 : decode cX5_install 123 = .ok (.iconst 1, 1) := by decide +kernel
theorem dX5_install_124 : decode cX5_install 124 = .ok (.iand, 1) := by decide +kernel
theorem dX5_install_125 : decode cX5_install 125 = .ok (.ifCond .eq 144, 3) := by decide +kernel
theorem dX5_install_128 : decode cX5_install 128 = .ok (.aload_n 0, 1) := by decide +kernel
theorem dX5_install_129 : decode cX5_install 129 = .ok (.iload 4, 2) := by decide +kernel
theorem dX5_install_131 : decode cX5_install 131 = .ok (.invokevirtual 53, 3) := by decide +kernel
theorem dX5_install_134 : decode cX5_install 134 = .ok (.ifCond .eq 6, 3) := by decide +kernel
theorem dX5_install_137 : decode cX5_install 137 = .ok (.goto 132, 3) := by decide +kernel
theorem dX5_install_140 : decode cX5_install 140 = .ok (.aload_n 0, 1) := by decide +kernel
theorem dX5_install_141 : decode cX5_install 141 = .ok (.getfield 9, 3) := by decide +kernel
theorem dX5_install_144 : decode cX5_install 144 = .ok (.sipush 1550, 3) := by decide +kernel
theorem dX5_install_147 : decode cX5_install 147 = .ok (.iload 4, 2) := by decide +kernel
theorem dX5_install_149 : decode cX5_install 149 = .ok (.iadd, 1) := by decide +kernel
theorem dX5_install_150 : decode cX5_install 150 = .ok (.aload_n 0, 1) := by decide +kernel
theorem dX5_install_151 : decode cX5_install 151 = .ok (.getfield 9, 3) := by decide +kernel
theorem dX5_install_154 : decode cX5_install 154 = .ok (.sipush 1550, 3) := by decide +kernel
theorem dX5_install_157 : decode cX5_install 157 = .ok (.iload_n 3, 1) := by decide +kernel
theorem dX5_install_158 : decode cX5_install 158 = .ok (.iadd, 1) := by decide +kernel
theorem dX5_install_159 : decode cX5_install 159 = .ok (.iaload, 1) := by decide +kernel
theorem dX5_install_160 : decode cX5_install 160 = .ok (.iastore, 1) := by decide +kernel
theorem dX5_install_161 : decode cX5_install 161 = .ok (.aload_n 0, 1) := by decide +kernel
theorem dX5_install_162 : decode cX5_install 162 = .ok (.getfield 9, 3) := by decide +kernel
theorem dX5_install_165 : decode cX5_install 165 = .ok (.sipush 4260, 3) := by decide +kernel
theorem dX5_install_168 : decode cX5_install 168 = .ok (.iload 4, 2) := by decide +kernel
theorem dX5_install_170 : decode cX5_install 170 = .ok (.iadd, 1) := by decide +kernel
theorem dX5_install_171 : decode cX5_install 171 = .ok (.aload_n 0, 1) := by decide +kernel
theorem dX5_install_172 : decode cX5_install 172 = .ok (.getfield 9, 3) := by decide +kernel
theorem dX5_install_175 : decode cX5_install 175 = .ok (.sipush 4260, 3) := by decide +kernel
theorem dX5_install_178 : decode cX5_install 178 = .ok (.iload_n 3, 1) := by decide +kernel
theorem dX5_install_179 : decode cX5_install 179 = .ok (.iadd, 1) := by decide +kernel
theorem dX5_install_180 : decode cX5_install 180 = .ok (.iaload, 1) := by decide +kernel
theorem dX5_install_181 : decode cX5_install 181 = .ok (.iastore, 1) := by decide +kernel
theorem dX5_install_182 : decode cX5_install 182 = .ok (.iconst 0, 1) := by decide +kernel
theorem dX5_install_183 : decode cX5_install 183 = .ok (.istore 5, 2) := by decide +kernel
theorem dX5_install_185 : decode cX5_install 185 = .ok (.iload 5, 2) := by decide +kernel
theorem dX5_install_187 : decode cX5_install 187 = .ok (.sipush 150, 3) := by decide +kernel
theorem dX5_install_190 : decode cX5_install 190 = .ok (.if_icmp .ge 79, 3) := by decide +kernel
theorem dX5_install_193 : decode cX5_install 193 = .ok (.aload_n 0, 1) := by decide +kernel
theorem dX5_install_194 : decode cX5_install 194 = .ok (.getfield 9, 3) := by decide +kernel
theorem dX5_install_197 : decode cX5_install 197 = .ok (.sipush 1560, 3) := by decide +kernel
theorem dX5_install_200 : decode cX5_install 200 = .ok (.sipush 150, 3) := by decide +kernel
theorem dX5_install_203 : decode cX5_install 203 = .ok (.iload 4, 2) := by decide +kernel
theorem dX5_install_205 : decode cX5_install 205 = .ok (.imul, 1) := by decide +kernel
theorem dX5_install_206 : decode cX5_install 206 = .ok (.iadd, 1) := by decide +kernel
theorem dX5_install_207 : decode cX5_install 207 = .ok (.iload 5, 2) := by decide +kernel
theorem dX5_install_209 : decode cX5_install 209 = .ok (.iadd, 1) := by decide +kernel
theorem dX5_install_210 : decode cX5_install 210 = .ok (.aload_n 0, 1) := by decide +kernel
theorem dX5_install_211 : decode cX5_install 211 = .ok (.getfield 9, 3) := by decide +kernel
theorem dX5_install_214 : decode cX5_install 214 = .ok (.sipush 1560, 3) := by decide +kernel
theorem dX5_install_217 : decode cX5_install 217 = .ok (.sipush 150, 3) := by decide +kernel
theorem dX5_install_220 : decode cX5_install 220 = .ok (.iload_n 3, 1) := by decide +kernel
theorem dX5_install_221 : decode cX5_install 221 = .ok (.imul, 1) := by decide +kernel
theorem dX5_install_222 : decode cX5_install 222 = .ok (.iadd, 1) := by decide +kernel
theorem dX5_install_223 : decode cX5_install 223 = .ok (.iload 5, 2) := by decide +kernel
theorem dX5_install_225 : decode cX5_install 225 = .ok (.iadd, 1) := by decide +kernel
theorem dX5_install_226 : decode cX5_install 226 = .ok (.iaload, 1) := by decide +kernel
theorem dX5_install_227 : decode cX5_install 227 = .ok (.iastore, 1) := by decide +kernel
theorem dX5_install_228 : decode cX5_install 228 = .ok (.aload_n 0, 1) := by decide +kernel
theorem dX5_install_229 : decode cX5_install 229 = .ok (.getfield 9, 3) := by decide +kernel
theorem dX5_install_232 : decode cX5_install 232 = .ok (.sipush 2460, 3) := by decide +kernel
theorem dX5_install_235 : decode cX5_install 235 = .ok (.sipush 150, 3) := by decide +kernel
theorem dX5_install_238 : decode cX5_install 238 = .ok (.iload 4, 2) := by decide +kernel
theorem dX5_install_240 : decode cX5_install 240 = .ok (.imul, 1) := by decide +kernel
theorem dX5_install_241 : decode cX5_install 241 = .ok (.iadd, 1) := by decide +kernel
theorem dX5_install_242 : decode cX5_install 242 = .ok (.iload 5, 2) := by decide +kernel
theorem dX5_install_244 : decode cX5_install 244 = .ok (.iadd, 1) := by decide +kernel
theorem dX5_install_245 : decode cX5_install 245 = .ok (.aload_n 0, 1) := by decide +kernel
theorem dX5_install_246 : decode cX5_install 246 = .ok (.getfield 9, 3) := by decide +kernel
theorem dX5_install_249 : decode cX5_install 249 = .ok (.sipush 2460, 3) := by decide +kernel
theorem dX5_install_252 : decode cX5_install 252 = .ok (.sipush 150, 3) := by decide +kernel
theorem dX5_install_255 : decode cX5_install 255 = .ok (.iload_n 3, 1) := by decide +kernel
theorem dX5_install_256 : decode cX5_install 256 = .ok (.imul, 1) := by decide +kernel
theorem dX5_install_257 : decode cX5_install 257 = .ok (.iadd, 1) := by decide +kernel
theorem dX5_install_258 : decode cX5_install 258 = .ok (.iload 5, 2) := by decide +kernel
theorem dX5_install_260 : decode cX5_install 260 = .ok (.iadd, 1) := by decide +kernel
theorem dX5_install_261 : decode cX5_install 261 = .ok (.iaload, 1) := by decide +kernel
theorem dX5_install_262 : decode cX5_install 262 = .ok (.iastore, 1) := by decide +kernel
theorem dX5_install_263 : decode cX5_install 263 = .ok (.iinc 5 1, 3) := by decide +kernel
theorem dX5_install_266 : decode cX5_install 266 = .ok (.goto (-81), 3) := by decide +kernel
theorem dX5_install_269 : decode cX5_install 269 = .ok (.iinc 4 1, 3) := by decide +kernel
theorem dX5_install_272 : decode cX5_install 272 = .ok (.goto (-166), 3) := by decide +kernel
theorem dX5_install_275 : decode cX5_install 275 = .ok (.aload_n 0, 1) := by decide +kernel
theorem dX5_install_276 : decode cX5_install 276 = .ok (.getfield 9, 3) := by decide +kernel
theorem dX5_install_279 : decode cX5_install 279 = .ok (.bipush 42, 2) := by decide +kernel
theorem dX5_install_281 : decode cX5_install 281 = .ok (.dup2, 1) := by decide +kernel
theorem dX5_install_282 : decode cX5_install 282 = .ok (.iaload, 1) := by decide +kernel
theorem dX5_install_283 : decode cX5_install 283 = .ok (.iconst 1, 1) := by decide +kernel
theorem dX5_install_284 : decode cX5_install 284 = .ok (.iadd, 1) := by decide +kernel
theorem dX5_install_285 : decode cX5_install 285 = .ok (.iastore, 1) := by decide +kernel
theorem dX5_install_286 : decode cX5_install 286 = .ok (.aload_n 0, 1) := by decide +kernel
theorem dX5_install_287 : decode cX5_install 287 = .ok (.getfield 9, 3) := by decide +kernel
theorem dX5_install_290 : decode cX5_install 290 = .ok (.iconst 0, 1) := by decide +kernel
theorem dX5_install_291 : decode cX5_install 291 = .ok (.aload_n 0, 1) := by decide +kernel
theorem dX5_install_292 : decode cX5_install 292 = .ok (.getfield 9, 3) := by decide +kernel
theorem dX5_install_295 : decode cX5_install 295 = .ok (.bipush 42, 2) := by decide +kernel
theorem dX5_install_297 : decode cX5_install 297 = .ok (.iaload, 1) := by decide +kernel
theorem dX5_install_298 : decode cX5_install 298 = .ok (.iadd, 1) := by decide +kernel
theorem dX5_install_299 : decode cX5_install 299 = .ok (.aload_n 0, 1) := by decide +kernel
theorem dX5_install_300 : decode cX5_install 300 = .ok (.getfield 9, 3) := by decide +kernel
theorem dX5_install_303 : decode cX5_install 303 = .ok (.bipush 43, 2) := by decide +kernel
theorem dX5_install_305 : decode cX5_install 305 = .ok (.iaload, 1) := by decide +kernel
theorem dX5_install_306 : decode cX5_install 306 = .ok (.iastore, 1) := by decide +kernel
theorem dX5_install_307 : decode cX5_install 307 = .ok (.aload_n 0, 1) := by decide +kernel
theorem dX5_install_308 : decode cX5_install 308 = .ok (.getfield 9, 3) := by decide +kernel
theorem dX5_install_311 : decode cX5_install 311 = .ok (.bipush 21, 2) := by decide +kernel
theorem dX5_install_313 : decode cX5_install 313 = .ok (.aload_n 0, 1) := by decide +kernel
theorem dX5_install_314 : decode cX5_install 314 = .ok (.getfield 9, 3) := by decide +kernel
theorem dX5_install_317 : decode cX5_install 317 = .ok (.bipush 42, 2) := by decide +kernel
theorem dX5_install_319 : decode cX5_install 319 = .ok (.iaload, 1) := by decide +kernel
theorem dX5_install_320 : decode cX5_install 320 = .ok (.iadd, 1) := by decide +kernel
theorem dX5_install_321 : decode cX5_install 321 = .ok (.iload_n 2, 1) := by decide +kernel
theorem dX5_install_322 : decode cX5_install 322 = .ok (.iastore, 1) := by decide +kernel
theorem dX5_install_323 : decode cX5_install 323 = .ok (.iconst 0, 1) := by decide +kernel
theorem dX5_install_324 : decode cX5_install 324 = .ok (.istore 4, 2) := by decide +kernel
theorem dX5_install_326 : decode cX5_install 326 = .ok (.iload 4, 2) := by decide +kernel
theorem dX5_install_328 : decode cX5_install 328 = .ok (.sipush 216, 3) := by decide +kernel
theorem dX5_install_331 : decode cX5_install 331 = .ok (.if_icmp .ge 21, 3) := by decide +kernel
theorem dX5_install_334 : decode cX5_install 334 = .ok (.aload_n 0, 1) := by decide +kernel
theorem dX5_install_335 : decode cX5_install 335 = .ok (.getfield 9, 3) := by decide +kernel
theorem dX5_install_338 : decode cX5_install 338 = .ok (.sipush 4270, 3) := by decide +kernel
theorem dX5_install_341 : decode cX5_install 341 = .ok (.iload 4, 2) := by decide +kernel
theorem dX5_install_343 : decode cX5_install 343 = .ok (.iadd, 1) := by decide +kernel
theorem dX5_install_344 : decode cX5_install 344 = .ok (.iconst 0, 1) := by decide +kernel
theorem dX5_install_345 : decode cX5_install 345 = .ok (.iastore, 1) := by decide +kernel
theorem dX5_install_346 : decode cX5_install 346 = .ok (.iinc 4 1, 3) := by decide +kernel
theorem dX5_install_349 : decode cX5_install 349 = .ok (.goto (-23), 3) := by decide +kernel
theorem dX5_install_352 : decode cX5_install 352 = .ok (.iload_n 2, 1) := by decide +kernel
theorem dX5_install_353 : decode cX5_install 353 = .ok (.ireturn, 1) := by decide +kernel
theorem dX5_broadcast_0 : decode cX5_broadcast 0 = .ok (.aload_n 0, 1) := by decide +kernel
theorem dX5_broadcast_1 : decode cX5_broadcast 1 = .ok (.iload_n 1, 1) := by decide +kernel
theorem dX5_broadcast_2 : decode cX5_broadcast 2 = .ok (.invokevirtual 96, 3) := by decide +kernel
theorem dX5_broadcast_5 : decode cX5_broadcast 5 = .ok (.ifCond .ne 5, 3) := by decide +kernel
theorem dX5_broadcast_8 : decode cX5_broadcast 8 = .ok (.iconst 0, 1) := by decide +kernel
theorem dX5_broadcast_9 : decode cX5_broadcast 9 = .ok (.ireturn, 1) := by decide +kernel
theorem dX5_broadcast_10 : decode cX5_broadcast 10 = .ok (.aload_n 0, 1) := by decide +kernel
theorem dX5_broadcast_11 : decode cX5_broadcast 11 = .ok (.getfield 9, 3) := by decide +kernel
theorem dX5_broadcast_14 : decode cX5_broadcast 14 = .ok (.bipush 44, 2) := by decide +kernel
theorem dX5_broadcast_16 : decode cX5_broadcast 16 = .ok (.iaload, 1) := by decide +kernel
theorem dX5_broadcast_17 : decode cX5_broadcast 17 = .ok (.sipush 150, 3) := by decide +kernel
theorem dX5_broadcast_20 : decode cX5_broadcast 20 = .ok (.if_icmp .ne 9, 3) := by decide +kernel
theorem dX5_broadcast_23 : decode cX5_broadcast 23 = .ok (.aload_n 0, 1) := by decide +kernel
theorem dX5_broadcast_24 : decode cX5_broadcast 24 = .ok (.iconst 2, 1) := by decide +kernel
theorem dX5_broadcast_25 : decode cX5_broadcast 25 = .ok (.invokevirtual 59, 3) := by decide +kernel
theorem dX5_broadcast_28 : decode cX5_broadcast 28 = .ok (.ireturn, 1) := by decide +kernel
theorem dX5_broadcast_29 : decode cX5_broadcast 29 = .ok (.aload_n 0, 1) := by decide +kernel
theorem dX5_broadcast_30 : decode cX5_broadcast 30 = .ok (.getfield 9, 3) := by decide +kernel
theorem dX5_broadcast_33 : decode cX5_broadcast 33 = .ok (.bipush 44, 2) := by decide +kernel
theorem dX5_broadcast_35 : decode cX5_broadcast 35 = .ok (.iaload, 1) := by decide +kernel
theorem dX5_broadcast_36 : decode cX5_broadcast 36 = .ok (.istore_n 3, 1) := by decide +kernel
theorem dX5_broadcast_37 : decode cX5_broadcast 37 = .ok (.aload_n 0, 1) := by decide +kernel
theorem dX5_broadcast_38 : decode cX5_broadcast 38 = .ok (.getfield 9, 3) := by decide +kernel
theorem dX5_broadcast_41 : decode cX5_broadcast 41 = .ok (.bipush 44, 2) := by decide +kernel
theorem dX5_broadcast_43 : decode cX5_broadcast 43 = .ok (.dup2, 1) := by decide +kernel
theorem dX5_broadcast_44 : decode cX5_broadcast 44 = .ok (.iaload, 1) := by decide +kernel
theorem dX5_broadcast_45 : decode cX5_broadcast 45 = .ok (.iconst 1, 1) := by decide +kernel
theorem dX5_broadcast_46 : decode cX5_broadcast 46 = .ok (.iadd, 1) := by decide +kernel
theorem dX5_broadcast_47 : decode cX5_broadcast 47 = .ok (.iastore, 1) := by decide +kernel
theorem dX5_broadcast_48 : decode cX5_broadcast 48 = .ok (.aload_n 0, 1) := by decide +kernel
theorem dX5_broadcast_49 : decode cX5_broadcast 49 = .ok (.getfield 9, 3) := by decide +kernel
theorem dX5_broadcast_52 : decode cX5_broadcast 52 = .ok (.bipush 50, 2) := by decide +kernel
theorem dX5_broadcast_54 : decode cX5_broadcast 54 = .ok (.iload_n 3, 1) := by decide +kernel
theorem dX5_broadcast_55 : decode cX5_broadcast 55 = .ok (.iadd, 1) := by decide +kernel
theorem dX5_broadcast_56 : decode cX5_broadcast 56 = .ok (.iload_n 1, 1) := by decide +kernel
theorem dX5_broadcast_57 : decode cX5_broadcast 57 = .ok (.iastore, 1) := by decide +kernel
theorem dX5_broadcast_58 : decode cX5_broadcast 58 = .ok (.aload_n 0, 1) := by decide +kernel
theorem dX5_broadcast_59 : decode cX5_broadcast 59 = .ok (.getfield 9, 3) := by decide +kernel
theorem dX5_broadcast_62 : decode cX5_broadcast 62 = .ok (.sipush 200, 3) := by decide +kernel
theorem dX5_broadcast_65 : decode cX5_broadcast 65 = .ok (.iload_n 3, 1) := by decide +kernel
theorem dX5_broadcast_66 : decode cX5_broadcast 66 = .ok (.iadd, 1) := by decide +kernel
theorem dX5_broadcast_67 : decode cX5_broadcast 67 = .ok (.iload_n 2, 1) := by decide +kernel
theorem dX5_broadcast_68 : decode cX5_broadcast 68 = .ok (.iastore, 1) := by decide +kernel
theorem dX5_broadcast_69 : decode cX5_broadcast 69 = .ok (.aload_n 0, 1) := by decide +kernel
theorem dX5_broadcast_70 : decode cX5_broadcast 70 = .ok (.getfield 9, 3) := by decide +kernel
theorem dX5_broadcast_73 : decode cX5_broadcast 73 = .ok (.sipush 350, 3) := by decide +kernel
theorem dX5_broadcast_76 : decode cX5_broadcast 76 = .ok (.iload_n 3, 1) := by decide +kernel
theorem dX5_broadcast_77 : decode cX5_broadcast 77 = .ok (.iadd, 1) := by decide +kernel
theorem dX5_broadcast_78 : decode cX5_broadcast 78 = .ok (.aload_n 0, 1) := by decide +kernel
theorem dX5_broadcast_79 : decode cX5_broadcast 79 = .ok (.getfield 9, 3) := by decide +kernel
theorem dX5_broadcast_82 : decode cX5_broadcast 82 = .ok (.bipush 42, 2) := by decide +kernel
theorem dX5_broadcast_84 : decode cX5_broadcast 84 = .ok (.iaload, 1) := by decide +kernel
theorem dX5_broadcast_85 : decode cX5_broadcast 85 = .ok (.iastore, 1) := by decide +kernel
theorem dX5_broadcast_86 : decode cX5_broadcast 86 = .ok (.aload_n 0, 1) := by decide +kernel
theorem dX5_broadcast_87 : decode cX5_broadcast 87 = .ok (.getfield 9, 3) := by decide +kernel
theorem dX5_broadcast_90 : decode cX5_broadcast 90 = .ok (.sipush 500, 3) := by decide +kernel
theorem dX5_broadcast_93 : decode cX5_broadcast 93 = .ok (.iload_n 3, 1) := by decide +kernel
theorem dX5_broadcast_94 : decode cX5_broadcast 94 = .ok (.iadd, 1) := by decide +kernel
theorem dX5_broadcast_95 : decode cX5_broadcast 95 = .ok (.aload_n 0, 1) := by decide +kernel
theorem dX5_broadcast_96 : decode cX5_broadcast 96 = .ok (.iload_n 1, 1) := by decide +kernel
theorem dX5_broadcast_97 : decode cX5_broadcast 97 = .ok (.iload_n 1, 1) := by decide +kernel
theorem dX5_broadcast_98 : decode cX5_broadcast 98 = .ok (.invokevirtual 76, 3) := by decide +kernel
theorem dX5_broadcast_101 : decode cX5_broadcast 101 = .ok (.iconst 1, 1) := by decide +kernel
theorem dX5_broadcast_102 : decode cX5_broadcast 102 = .ok (.iadd, 1) := by decide +kernel
theorem dX5_broadcast_103 : decode cX5_broadcast 103 = .ok (.iastore, 1) := by decide +kernel
theorem dX5_broadcast_104 : decode cX5_broadcast 104 = .ok (.aload_n 0, 1) := by decide +kernel
theorem dX5_broadcast_105 : decode cX5_broadcast 105 = .ok (.iload_n 1, 1) := by decide +kernel
theorem dX5_broadcast_106 : decode cX5_broadcast 106 = .ok (.iload_n 3, 1) := by decide +kernel
theorem dX5_broadcast_107 : decode cX5_broadcast 107 = .ok (.invokevirtual 90, 3) := by decide +kernel
theorem dX5_broadcast_110 : decode cX5_broadcast 110 = .ok (.iconst 0, 1) := by decide +kernel
theorem dX5_broadcast_111 : decode cX5_broadcast 111 = .ok (.istore 4, 2) := by decide +kernel
theorem dX5_broadcast_113 : decode cX5_broadcast 113 = .ok (.iload 4, 2) := by decide +kernel
theorem dX5_broadcast_115 : decode cX5_broadcast 115 = .ok (.bipush 6, 2) := by decide +kernel
theorem dX5_broadcast_117 : decode cX5_broadcast 117 = .ok (.if_icmp .ge 32, 3) := by decide +kernel
theorem dX5_broadcast_120 : decode cX5_broadcast 120 = .ok (.aload_n 0, 1) := by decide +kernel
theorem dX5_broadcast_121 : decode cX5_broadcast 121 = .ok (.getfield 9, 3) := by decide +kernel
theorem dX5_broadcast_124 : decode cX5_broadcast 124 = .ok (.sipush 650, 3) := by decide +kernel
theorem dX5_broadcast_127 : decode cX5_broadcast 127 = .ok (.bipush 6, 2) := by decide +kernel
theorem dX5_broadcast_129 : decode cX5_broadcast 129 = .ok (.iload_n 3, 1) := by decide +kernel
theorem dX5_broadcast_130 : decode cX5_broadcast 130 = .ok (.imul, 1) := by decide +kernel
theorem dX5_broadcast_131 : decode cX5_broadcast 131 = .ok (.iadd, 1) := by decide +kernel
theorem dX5_broadcast_132 : decode cX5_broadcast 132 = .ok (.iload 4, 2) := by decide +kernel
theorem dX5_broadcast_134 : decode cX5_broadcast 134 = .ok (.iadd, 1) := by decide +kernel
theorem dX5_broadcast_135 : decode cX5_broadcast 135 = .ok (.aload_n 0, 1) := by decide +kernel
theorem dX5_broadcast_136 : decode cX5_broadcast 136 = .ok (.iload_n 1, 1) := by decide +kernel
theorem dX5_broadcast_137 : decode cX5_broadcast 137 = .ok (.iload 4, 2) := by decide +kernel
theorem dX5_broadcast_139 : decode cX5_broadcast 139 = .ok (.invokevirtual 76, 3) := by decide +kernel
theorem dX5_broadcast_142 : decode cX5_broadcast 142 = .ok (.iastore, 1) := by decide +kernel
theorem dX5_broadcast_143 : decode cX5_broadcast 143 = .ok (.iinc 4 1, 3) := by decide +kernel
theorem dX5_broadcast_146 : decode cX5_broadcast 146 = .ok (.goto (-33), 3) := by decide +kernel
theorem dX5_broadcast_149 : decode cX5_broadcast 149 = .ok (.iload_n 3, 1) := by decide +kernel
theorem dX5_broadcast_150 : decode cX5_broadcast 150 = .ok (.ireturn, 1) := by decide +kernel
theorem dX5_isBuffered_0 : decode cX5_isBuffered 0 = .ok (.aload_n 0, 1) := by decide +kernel
theorem dX5_isBuffered_1 : decode cX5_isBuffered 1 = .ok (.iload_n 2, 1) := by decide +kernel
theorem dX5_isBuffered_2 : decode cX5_isBuffered 2 = .ok (.invokevirtual 69, 3) := by decide +kernel
theorem dX5_isBuffered_5 : decode cX5_isBuffered 5 = .ok (.ifCond .eq 36, 3) := by decide +kernel
theorem dX5_isBuffered_8 : decode cX5_isBuffered 8 = .ok (.aload_n 0, 1) := by decide +kernel
theorem dX5_isBuffered_9 : decode cX5_isBuffered 9 = .ok (.getfield 9, 3) := by decide +kernel
theorem dX5_isBuffered_12 : decode cX5_isBuffered 12 = .ok (.sipush 3360, 3) := by decide +kernel
theorem dX5_isBuffered_15 : decode cX5_isBuffered 15 = .ok (.sipush 150, 3) := by decide +kernel
theorem dX5_isBuffered_18 : decode cX5_isBuffered 18 = .ok (.iload_n 1, 1) := by decide +kernel
theorem dX5_isBuffered_19 : decode cX5_isBuffered 19 = .ok (.imul, 1) := by decide +kernel
theorem dX5_isBuffered_20 : decode cX5_isBuffered 20 = .ok (.iadd, 1) := by decide +kernel
theorem dX5_isBuffered_21 : decode cX5_isBuffered 21 = .ok (.iload_n 2, 1) := by decide +kernel
theorem dX5_isBuffered_22 : decode cX5_isBuffered 22 = .ok (.iadd, 1) := by decide +kernel
theorem dX5_isBuffered_23 : decode cX5_isBuffered 23 = .ok (.iaload, 1) := by decide +kernel
theorem dX5_isBuffered_24 : decode cX5_isBuffered 24 = .ok (.iconst 1, 1) := by decide +kernel
theorem dX5_isBuffered_25 : decode cX5_isBuffered 25 = .ok (.if_icmp .ne 16, 3) := by decide +kernel
theorem dX5_isBuffered_28 : decode cX5_isBuffered 28 = .ok (.aload_n 0, 1) := by decide +kernel
theorem dX5_isBuffered_29 : decode cX5_isBuffered 29 = .ok (.iload_n 1, 1) := by decide +kernel
theorem dX5_isBuffered_30 : decode cX5_isBuffered 30 = .ok (.iload_n 2, 1) := by decide +kernel
theorem dX5_isBuffered_31 : decode cX5_isBuffered 31 = .ok (.invokevirtual 72, 3) := by decide +kernel
theorem dX5_isBuffered_34 : decode cX5_isBuffered 34 = .ok (.ifCond .ne 7, 3) := by decide +kernel
theorem dX5_isBuffered_37 : decode cX5_isBuffered 37 = .ok (.iconst 1, 1) := by decide +kernel
theorem dX5_isBuffered_38 : decode cX5_isBuffered 38 = .ok (.goto 4, 3) := by decide +kernel
theorem dX5_isBuffered_41 : decode cX5_isBuffered 41 = .ok (.iconst 0, 1) := by decide +kernel
theorem dX5_isBuffered_42 : decode cX5_isBuffered 42 = .ok (.ireturn, 1) := by decide +kernel
theorem dX5_comes_0 : decode cX5_comes 0 = .ok (.aload_n 0, 1) := by decide +kernel
theorem dX5_comes_1 : decode cX5_comes 1 = .ok (.getfield 9, 3) := by decide +kernel
theorem dX5_comes_4 : decode cX5_comes 4 = .ok (.sipush 3360, 3) := by decide +kernel
theorem dX5_comes_7 : decode cX5_comes 7 = .ok (.sipush 150, 3) := by decide +kernel
theorem dX5_comes_10 : decode cX5_comes 10 = .ok (.iload_n 1, 1) := by decide +kernel
theorem dX5_comes_11 : decode cX5_comes 11 = .ok (.imul, 1) := by decide +kernel
theorem dX5_comes_12 : decode cX5_comes 12 = .ok (.iadd, 1) := by decide +kernel
theorem dX5_comes_13 : decode cX5_comes 13 = .ok (.iload_n 2, 1) := by decide +kernel
theorem dX5_comes_14 : decode cX5_comes 14 = .ok (.iadd, 1) := by decide +kernel
theorem dX5_comes_15 : decode cX5_comes 15 = .ok (.iconst 1, 1) := by decide +kernel
theorem dX5_comes_16 : decode cX5_comes 16 = .ok (.iastore, 1) := by decide +kernel
theorem dX5_comes_17 : decode cX5_comes 17 = .ok (.iconst 0, 1) := by decide +kernel
theorem dX5_comes_18 : decode cX5_comes 18 = .ok (.istore_n 3, 1) := by decide +kernel
theorem dX5_comes_19 : decode cX5_comes 19 = .ok (.iconst 1, 1) := by decide +kernel
theorem dX5_comes_20 : decode cX5_comes 20 = .ok (.istore 4, 2) := by decide +kernel
theorem dX5_comes_22 : decode cX5_comes 22 = .ok (.iload 4, 2) := by decide +kernel
theorem dX5_comes_24 : decode cX5_comes 24 = .ok (.ifCond .eq 71, 3) := by decide +kernel
theorem dX5_comes_27 : decode cX5_comes 27 = .ok (.iconst 0, 1) := by decide +kernel
theorem dX5_comes_28 : decode cX5_comes 28 = .ok (.istore 4, 2) := by decide +kernel
theorem dX5_comes_30 : decode cX5_comes 30 = .ok (.iconst 0, 1) := by decide +kernel
theorem dX5_comes_31 : decode cX5_comes 31 = .ok (.istore 5, 2) := by decide +kernel
theorem dX5_comes_33 : decode cX5_comes 33 = .ok (.iload 5, 2) := by decide +kernel
theorem dX5_comes_35 : decode cX5_comes 35 = .ok (.aload_n 0, 1) := by decide +kernel
theorem dX5_comes_36 : decode cX5_comes 36 = .ok (.getfield 9, 3) := by decide +kernel
theorem dX5_comes_39 : decode cX5_comes 39 = .ok (.bipush 44, 2) := by decide +kernel
theorem dX5_comes_41 : decode cX5_comes 41 = .ok (.iaload, 1) := by decide +kernel
theorem dX5_comes_42 : decode cX5_comes 42 = .ok (.if_icmp .ge 50, 3) := by decide +kernel
theorem dX5_comes_45 : decode cX5_comes 45 = .ok (.iload 4, 2) := by decide +kernel
theorem dX5_comes_47 : decode cX5_comes 47 = .ok (.ifCond .ne 45, 3) := by decide +kernel
theorem dX5_comes_50 : decode cX5_comes 50 = .ok (.aload_n 0, 1) := by decide +kernel
theorem dX5_comes_51 : decode cX5_comes 51 = .ok (.iload_n 1, 1) := by decide +kernel
theorem dX5_comes_52 : decode cX5_comes 52 = .ok (.iload 5, 2) := by decide +kernel
theorem dX5_comes_54 : decode cX5_comes 54 = .ok (.invokevirtual 99, 3) := by decide +kernel
theorem dX5_comes_57 : decode cX5_comes 57 = .ok (.ifCond .eq 29, 3) := by decide +kernel
theorem dX5_comes_60 : decode cX5_comes 60 = .ok (.aload_n 0, 1) := by decide +kernel
theorem dX5_comes_61 : decode cX5_comes 61 = .ok (.iload_n 1, 1) := by decide +kernel
theorem dX5_comes_62 : decode cX5_comes 62 = .ok (.iload 5, 2) := by decide +kernel
theorem dX5_comes_64 : decode cX5_comes 64 = .ok (.invokevirtual 84, 3) := by decide +kernel
theorem dX5_comes_67 : decode cX5_comes 67 = .ok (.ifCond .ne 6, 3) := by decide +kernel
theorem dX5_comes_70 : decode cX5_comes 70 = .ok (.goto 16, 3) := by decide +kernel
theorem dX5_comes_73 : decode cX5_comes 73 = .ok (.aload_n 0, 1) := by decide +kernel
theorem dX5_comes_74 : decode cX5_comes 74 = .ok (.iload_n 1, 1) := by decide +kernel
theorem dX5_comes_75 : decode cX5_comes 75 = .ok (.iload 5, 2) := by decide +kernel
theorem dX5_comes_77 : decode cX5_comes 77 = .ok (.invokevirtual 90, 3) := by decide +kernel
theorem dX5_comes_80 : decode cX5_comes 80 = .ok (.iinc 3 1, 3) := by decide +kernel
theorem dX5_comes_83 : decode cX5_comes 83 = .ok (.iconst 1, 1) := by decide +kernel
theorem dX5_comes_84 : decode cX5_comes 84 = .ok (.istore 4, 2) := by decide +kernel
theorem dX5_comes_86 : decode cX5_comes 86 = .ok (.iinc 5 1, 3) := by decide +kernel
theorem dX5_comes_89 : decode cX5_comes 89 = .ok (.goto (-56), 3) := by decide +kernel
theorem dX5_comes_92 : decode cX5_comes 92 = .ok (.goto (-70), 3) := by decide +kernel
theorem dX5_comes_95 : decode cX5_comes 95 = .ok (.iload_n 3, 1) := by decide +kernel
theorem dX5_comes_96 : decode cX5_comes 96 = .ok (.ireturn, 1) := by decide +kernel
theorem dX5_isOnTheWay_0 : decode cX5_isOnTheWay 0 = .ok (.aload_n 0, 1) := by decide +kernel
theorem dX5_isOnTheWay_1 : decode cX5_isOnTheWay 1 = .ok (.iload_n 2, 1) := by decide +kernel
theorem dX5_isOnTheWay_2 : decode cX5_isOnTheWay 2 = .ok (.invokevirtual 69, 3) := by decide +kernel
theorem dX5_isOnTheWay_5 : decode cX5_isOnTheWay 5 = .ok (.ifCond .eq 39, 3) := by decide +kernel
theorem dX5_isOnTheWay_8 : decode cX5_isOnTheWay 8 = .ok (.aload_n 0, 1) := by decide +kernel
theorem dX5_isOnTheWay_9 : decode cX5_isOnTheWay 9 = .ok (.getfield 9, 3) := by decide +kernel
theorem dX5_isOnTheWay_12 : decode cX5_isOnTheWay 12 = .ok (.bipush 50, 2) := by decide +kernel
theorem dX5_isOnTheWay_14 : decode cX5_isOnTheWay 14 = .ok (.iload_n 2, 1) := by decide +kernel
theorem dX5_isOnTheWay_15 : decode cX5_isOnTheWay 15 = .ok (.iadd, 1) := by decide +kernel
theorem dX5_isOnTheWay_16 : decode cX5_isOnTheWay 16 = .ok (.iaload, 1) := by decide +kernel
theorem dX5_isOnTheWay_17 : decode cX5_isOnTheWay 17 = .ok (.iload_n 1, 1) := by decide +kernel
theorem dX5_isOnTheWay_18 : decode cX5_isOnTheWay 18 = .ok (.if_icmp .eq 26, 3) := by decide +kernel
theorem dX5_isOnTheWay_21 : decode cX5_isOnTheWay 21 = .ok (.aload_n 0, 1) := by decide +kernel
theorem dX5_isOnTheWay_22 : decode cX5_isOnTheWay 22 = .ok (.getfield 9, 3) := by decide +kernel
theorem dX5_isOnTheWay_25 : decode cX5_isOnTheWay 25 = .ok (.sipush 3360, 3) := by decide +kernel
theorem dX5_isOnTheWay_28 : decode cX5_isOnTheWay 28 = .ok (.sipush 150, 3) := by decide +kernel
theorem dX5_isOnTheWay_31 : decode cX5_isOnTheWay 31 = .ok (.iload_n 1, 1) := by decide +kernel
theorem dX5_isOnTheWay_32 : decode cX5_isOnTheWay 32 = .ok (.imul, 1) := by decide +kernel
theorem dX5_isOnTheWay_33 : decode cX5_isOnTheWay 33 = .ok (.iadd, 1) := by decide +kernel
theorem dX5_isOnTheWay_34 : decode cX5_isOnTheWay 34 = .ok (.iload_n 2, 1) := by decide +kernel
theorem dX5_isOnTheWay_35 : decode cX5_isOnTheWay 35 = .ok (.iadd, 1) := by decide +kernel
theorem dX5_isOnTheWay_36 : decode cX5_isOnTheWay 36 = .ok (.iaload, 1) := by decide +kernel
theorem dX5_isOnTheWay_37 : decode cX5_isOnTheWay 37 = .ok (.ifCond .ne 7, 3) := by decide +kernel
theorem dX5_isOnTheWay_40 : decode cX5_isOnTheWay 40 = .ok (.iconst 1, 1) := by decide +kernel
theorem dX5_isOnTheWay_41 : decode cX5_isOnTheWay 41 = .ok (.goto 4, 3) := by decide +kernel
theorem dX5_isOnTheWay_44 : decode cX5_isOnTheWay 44 = .ok (.iconst 0, 1) := by decide +kernel
theorem dX5_isOnTheWay_45 : decode cX5_isOnTheWay 45 = .ok (.ireturn, 1) := by decide +kernel
theorem dX5_arrive_0 : decode cX5_arrive 0 = .ok (.aload_n 0, 1) := by decide +kernel
theorem dX5_arrive_1 : decode cX5_arrive 1 = .ok (.iconst 0, 1) := by decide +kernel
theorem dX5_arrive_2 : decode cX5_arrive 2 = .ok (.putfield 38, 3) := by decide +kernel
theorem dX5_arrive_5 : decode cX5_arrive 5 = .ok (.iload_n 1, 1) := by decide +kernel
theorem dX5_arrive_6 : decode cX5_arrive 6 = .ok (.invokestatic 49, 3) := by decide +kernel
theorem dX5_arrive_9 : decode cX5_arrive 9 = .ok (.ifCond .eq 11, 3) := by decide +kernel
theorem dX5_arrive_12 : decode cX5_arrive 12 = .ok (.aload_n 0, 1) := by decide +kernel
theorem dX5_arrive_13 : decode cX5_arrive 13 = .ok (.iload_n 2, 1) := by decide +kernel
theorem dX5_arrive_14 : decode cX5_arrive 14 = .ok (.invokevirtual 56, 3) := by decide +kernel
theorem dX5_arrive_17 : decode cX5_arrive 17 = .ok (.ifCond .ne 9, 3) := by decide +kernel
theorem dX5_arrive_20 : decode cX5_arrive 20 = .ok (.aload_n 0, 1) := by decide +kernel
theorem dX5_arrive_21 : decode cX5_arrive 21 = .ok (.iconst 1, 1) := by decide +kernel
theorem dX5_arrive_22 : decode cX5_arrive 22 = .ok (.invokevirtual 59, 3) := by decide +kernel
theorem dX5_arrive_25 : decode cX5_arrive 25 = .ok (.ireturn, 1) := by decide +kernel
theorem dX5_arrive_26 : decode cX5_arrive 26 = .ok (.aload_n 0, 1) := by decide +kernel
theorem dX5_arrive_27 : decode cX5_arrive 27 = .ok (.iload_n 1, 1) := by decide +kernel
theorem dX5_arrive_28 : decode cX5_arrive 28 = .ok (.invokevirtual 53, 3) := by decide +kernel
theorem dX5_arrive_31 : decode cX5_arrive 31 = .ok (.ifCond .eq 11, 3) := by decide +kernel
theorem dX5_arrive_34 : decode cX5_arrive 34 = .ok (.aload_n 0, 1) := by decide +kernel
theorem dX5_arrive_35 : decode cX5_arrive 35 = .ok (.iload_n 2, 1) := by decide +kernel
theorem dX5_arrive_36 : decode cX5_arrive 36 = .ok (.invokevirtual 69, 3) := by decide +kernel
theorem dX5_arrive_39 : decode cX5_arrive 39 = .ok (.ifCond .ne 9, 3) := by decide +kernel
theorem dX5_arrive_42 : decode cX5_arrive 42 = .ok (.aload_n 0, 1) := by decide +kernel
theorem dX5_arrive_43 : decode cX5_arrive 43 = .ok (.iconst 2, 1) := by decide +kernel
theorem dX5_arrive_44 : decode cX5_arrive 44 = .ok (.invokevirtual 59, 3) := by decide +kernel
theorem dX5_arrive_47 : decode cX5_arrive 47 = .ok (.ireturn, 1) := by decide +kernel
theorem dX5_arrive_48 : decode cX5_arrive 48 = .ok (.aload_n 0, 1) := by decide +kernel
theorem dX5_arrive_49 : decode cX5_arrive 49 = .ok (.iload_n 1, 1) := by decide +kernel
theorem dX5_arrive_50 : decode cX5_arrive 50 = .ok (.iload_n 2, 1) := by decide +kernel
theorem dX5_arrive_51 : decode cX5_arrive 51 = .ok (.invokevirtual 102, 3) := by decide +kernel
theorem dX5_arrive_54 : decode cX5_arrive 54 = .ok (.ifCond .eq 10, 3) := by decide +kernel
theorem dX5_arrive_57 : decode cX5_arrive 57 = .ok (.aload_n 0, 1) := by decide +kernel
theorem dX5_arrive_58 : decode cX5_arrive 58 = .ok (.iload_n 1, 1) := by decide +kernel
theorem dX5_arrive_59 : decode cX5_arrive 59 = .ok (.iload_n 2, 1) := by decide +kernel
theorem dX5_arrive_60 : decode cX5_arrive 60 = .ok (.invokevirtual 105, 3) := by decide +kernel
theorem dX5_arrive_63 : decode cX5_arrive 63 = .ok (.ireturn, 1) := by decide +kernel
theorem dX5_arrive_64 : decode cX5_arrive 64 = .ok (.aload_n 0, 1) := by decide +kernel
theorem dX5_arrive_65 : decode cX5_arrive 65 = .ok (.getfield 9, 3) := by decide +kernel
theorem dX5_arrive_68 : decode cX5_arrive 68 = .ok (.bipush 45, 2) := by decide +kernel
theorem dX5_arrive_70 : decode cX5_arrive 70 = .ok (.dup2, 1) := by decide +kernel
theorem dX5_arrive_71 : decode cX5_arrive 71 = .ok (.iaload, 1) := by decide +kernel
theorem dX5_arrive_72 : decode cX5_arrive 72 = .ok (.iconst 1, 1) := by decide +kernel
theorem dX5_arrive_73 : decode cX5_arrive 73 = .ok (.iadd, 1) := by decide +kernel
theorem dX5_arrive_74 : decode cX5_arrive 74 = .ok (.iastore, 1) := by decide +kernel
theorem dX5_arrive_75 : decode cX5_arrive 75 = .ok (.iconst 0, 1) := by decide +kernel
theorem dX5_arrive_76 : decode cX5_arrive 76 = .ok (.ireturn, 1) := by decide +kernel
theorem dX5_arriveAll_0 : decode cX5_arriveAll 0 = .ok (.aload_n 0, 1) := by decide +kernel
theorem dX5_arriveAll_1 : decode cX5_arriveAll 1 = .ok (.iload_n 1, 1) := by decide +kernel
theorem dX5_arriveAll_2 : decode cX5_arriveAll 2 = .ok (.invokevirtual 96, 3) := by decide +kernel
theorem dX5_arriveAll_5 : decode cX5_arriveAll 5 = .ok (.ifCond .ne 5, 3) := by decide +kernel
theorem dX5_arriveAll_8 : decode cX5_arriveAll 8 = .ok (.iconst 0, 1) := by decide +kernel
theorem dX5_arriveAll_9 : decode cX5_arriveAll 9 = .ok (.ireturn, 1) := by decide +kernel
theorem dX5_arriveAll_10 : decode cX5_arriveAll 10 = .ok (.iconst 0, 1) := by decide +kernel
theorem dX5_arriveAll_11 : decode cX5_arriveAll 11 = .ok (.istore_n 2, 1) := by decide +kernel
theorem dX5_arriveAll_12 : decode cX5_arriveAll 12 = .ok (.iconst 0, 1) := by decide +kernel
theorem dX5_arriveAll_13 : decode cX5_arriveAll 13 = .ok (.istore_n 3, 1) := by decide +kernel
theorem dX5_arriveAll_14 : decode cX5_arriveAll 14 = .ok (.iload_n 3, 1) := by decide +kernel
theorem dX5_arriveAll_15 : decode cX5_arriveAll 15 = .ok (.aload_n 0, 1) := by decide +kernel
theorem dX5_arriveAll_16 : decode cX5_arriveAll 16 = .ok (.getfield 9, 3) := by decide +kernel
theorem dX5_arriveAll_19 : decode cX5_arriveAll 19 = .ok (.bipush 44, 2) := by decide +kernel
theorem dX5_arriveAll_21 : decode cX5_arriveAll 21 = .ok (.iaload, 1) := by decide +kernel
theorem dX5_arriveAll_22 : decode cX5_arriveAll 22 = .ok (.if_icmp .ge 31, 3) := by decide +kernel
theorem dX5_arriveAll_25 : decode cX5_arriveAll 25 = .ok (.iload_n 2, 1) := by decide +kernel
theorem dX5_arriveAll_26 : decode cX5_arriveAll 26 = .ok (.aload_n 0, 1) := by decide +kernel
theorem dX5_arriveAll_27 : decode cX5_arriveAll 27 = .ok (.iload_n 1, 1) := by decide +kernel
theorem dX5_arriveAll_28 : decode cX5_arriveAll 28 = .ok (.iload_n 3, 1) := by decide +kernel
theorem dX5_arriveAll_29 : decode cX5_arriveAll 29 = .ok (.invokevirtual 102, 3) := by decide +kernel
theorem dX5_arriveAll_32 : decode cX5_arriveAll 32 = .ok (.ifCond .eq 12, 3) := by decide +kernel
theorem dX5_arriveAll_35 : decode cX5_arriveAll 35 = .ok (.aload_n 0, 1) := by decide +kernel
theorem dX5_arriveAll_36 : decode cX5_arriveAll 36 = .ok (.iload_n 1, 1) := by decide +kernel
theorem dX5_arriveAll_37 : decode cX5_arriveAll 37 = .ok (.iload_n 3, 1) := by decide +kernel
theorem dX5_arriveAll_38 : decode cX5_arriveAll 38 = .ok (.invokevirtual 105, 3) := by decide +kernel
theorem dX5_arriveAll_41 : decode cX5_arriveAll 41 = .ok (.goto 4, 3) := by decide +kernel
theorem dX5_arriveAll_44 : decode cX5_arriveAll 44 = .ok (.iconst 0, 1) := by decide +kernel
theorem dX5_arriveAll_45 : decode cX5_arriveAll 45 = .ok (.iadd, 1) := by decide +kernel
theorem dX5_arriveAll_46 : decode cX5_arriveAll 46 = .ok (.istore_n 2, 1) := by decide +kernel
theorem dX5_arriveAll_47 : decode cX5_arriveAll 47 = .ok (.iinc 3 1, 3) := by decide +kernel
theorem dX5_arriveAll_50 : decode cX5_arriveAll 50 = .ok (.goto (-36), 3) := by decide +kernel
theorem dX5_arriveAll_53 : decode cX5_arriveAll 53 = .ok (.iload_n 2, 1) := by decide +kernel
theorem dX5_arriveAll_54 : decode cX5_arriveAll 54 = .ok (.ireturn, 1) := by decide +kernel
theorem dX5_gossip_0 : decode cX5_gossip 0 = .ok (.aload_n 0, 1) := by decide +kernel
theorem dX5_gossip_1 : decode cX5_gossip 1 = .ok (.iconst 0, 1) := by decide +kernel
theorem dX5_gossip_2 : decode cX5_gossip 2 = .ok (.putfield 38, 3) := by decide +kernel
theorem dX5_gossip_5 : decode cX5_gossip 5 = .ok (.iload_n 1, 1) := by decide +kernel
theorem dX5_gossip_6 : decode cX5_gossip 6 = .ok (.invokestatic 49, 3) := by decide +kernel
theorem dX5_gossip_9 : decode cX5_gossip 9 = .ok (.ifCond .eq 10, 3) := by decide +kernel
theorem dX5_gossip_12 : decode cX5_gossip 12 = .ok (.iload_n 2, 1) := by decide +kernel
theorem dX5_gossip_13 : decode cX5_gossip 13 = .ok (.invokestatic 49, 3) := by decide +kernel
theorem dX5_gossip_16 : decode cX5_gossip 16 = .ok (.ifCond .ne 9, 3) := by decide +kernel
theorem dX5_gossip_19 : decode cX5_gossip 19 = .ok (.aload_n 0, 1) := by decide +kernel
theorem dX5_gossip_20 : decode cX5_gossip 20 = .ok (.iconst 1, 1) := by decide +kernel
theorem dX5_gossip_21 : decode cX5_gossip 21 = .ok (.invokevirtual 59, 3) := by decide +kernel
theorem dX5_gossip_24 : decode cX5_gossip 24 = .ok (.ireturn, 1) := by decide +kernel
theorem dX5_gossip_25 : decode cX5_gossip 25 = .ok (.aload_n 0, 1) := by decide +kernel
theorem dX5_gossip_26 : decode cX5_gossip 26 = .ok (.iload_n 1, 1) := by decide +kernel
theorem dX5_gossip_27 : decode cX5_gossip 27 = .ok (.invokevirtual 53, 3) := by decide +kernel
theorem dX5_gossip_30 : decode cX5_gossip 30 = .ok (.ifCond .eq 16, 3) := by decide +kernel
theorem dX5_gossip_33 : decode cX5_gossip 33 = .ok (.aload_n 0, 1) := by decide +kernel
theorem dX5_gossip_34 : decode cX5_gossip 34 = .ok (.iload_n 2, 1) := by decide +kernel
theorem dX5_gossip_35 : decode cX5_gossip 35 = .ok (.invokevirtual 53, 3) := by decide +kernel
theorem dX5_gossip_38 : decode cX5_gossip 38 = .ok (.ifCond .eq 8, 3) := by decide +kernel
theorem dX5_gossip_41 : decode cX5_gossip 41 = .ok (.iload_n 1, 1) := by decide +kernel
theorem dX5_gossip_42 : decode cX5_gossip 42 = .ok (.iload_n 2, 1) := by decide +kernel
theorem dX5_gossip_43 : decode cX5_gossip 43 = .ok (.if_icmp .ne 9, 3) := by decide +kernel
theorem dX5_gossip_46 : decode cX5_gossip 46 = .ok (.aload_n 0, 1) := by decide +kernel
theorem dX5_gossip_47 : decode cX5_gossip 47 = .ok (.iconst 2, 1) := by decide +kernel
theorem dX5_gossip_48 : decode cX5_gossip 48 = .ok (.invokevirtual 59, 3) := by decide +kernel
theorem dX5_gossip_51 : decode cX5_gossip 51 = .ok (.ireturn, 1) := by decide +kernel
theorem dX5_gossip_52 : decode cX5_gossip 52 = .ok (.iconst 0, 1) := by decide +kernel
theorem dX5_gossip_53 : decode cX5_gossip 53 = .ok (.istore_n 3, 1) := by decide +kernel
theorem dX5_gossip_54 : decode cX5_gossip 54 = .ok (.iconst 0, 1) := by decide +kernel
theorem dX5_gossip_55 : decode cX5_gossip 55 = .ok (.istore 4, 2) := by decide +kernel
theorem dX5_gossip_57 : decode cX5_gossip 57 = .ok (.iload 4, 2) := by decide +kernel
theorem dX5_gossip_59 : decode cX5_gossip 59 = .ok (.bipush 6, 2) := by decide +kernel
theorem dX5_gossip_61 : decode cX5_gossip 61 = .ok (.if_icmp .ge 101, 3) := by decide +kernel
theorem dX5_gossip_64 : decode cX5_gossip 64 = .ok (.iconst 0, 1) := by decide +kernel
theorem dX5_gossip_65 : decode cX5_gossip 65 = .ok (.istore 5, 2) := by decide +kernel
theorem dX5_gossip_67 : decode cX5_gossip 67 = .ok (.iload 5, 2) := by decide +kernel
theorem dX5_gossip_69 : decode cX5_gossip 69 = .ok (.bipush 6, 2) := by decide +kernel
theorem dX5_gossip_71 : decode cX5_gossip 71 = .ok (.if_icmp .ge 85, 3) := by decide +kernel
theorem dX5_gossip_74 : decode cX5_gossip 74 = .ok (.iload 4, 2) := by decide +kernel
theorem dX5_gossip_76 : decode cX5_gossip 76 = .ok (.iload_n 2, 1) := by decide +kernel
theorem dX5_gossip_77 : decode cX5_gossip 77 = .ok (.if_icmp .eq 79, 3) := by decide +kernel
theorem dX5_gossip_80 : decode cX5_gossip 80 = .ok (.sipush 4270, 3) := by decide +kernel
theorem dX5_gossip_83 : decode cX5_gossip 83 = .ok (.bipush 36, 2) := by decide +kernel
theorem dX5_gossip_85 : decode cX5_gossip 85 = .ok (.iload_n 2, 1) := by decide +kernel
theorem dX5_gossip_86 : decode cX5_gossip 86 = .ok (.imul, 1) := by decide +kernel
theorem dX5_gossip_87 : decode cX5_gossip 87 = .ok (.iadd, 1) := by decide +kernel
theorem dX5_gossip_88 : decode cX5_gossip 88 = .ok (.bipush 6, 2) := by decide +kernel
theorem dX5_gossip_90 : decode cX5_gossip 90 = .ok (.iload 4, 2) := by decide +kernel
theorem dX5_gossip_92 : decode cX5_gossip 92 = .ok (.imul, 1) := by decide +kernel
theorem dX5_gossip_93 : decode cX5_gossip 93 = .ok (.iadd, 1) := by decide +kernel
theorem dX5_gossip_94 : decode cX5_gossip 94 = .ok (.iload 5, 2) := by decide +kernel
theorem dX5_gossip_96 : decode cX5_gossip 96 = .ok (.iadd, 1) := by decide +kernel
theorem dX5_gossip_97 : decode cX5_gossip 97 = .ok (.istore 6, 2) := by decide +kernel
theorem dX5_gossip_99 : decode cX5_gossip 99 = .ok (.aload_n 0, 1) := by decide +kernel
theorem dX5_gossip_100 : decode cX5_gossip 100 = .ok (.getfield 9, 3) := by decide +kernel
theorem dX5_gossip_103 : decode cX5_gossip 103 = .ok (.sipush 4270, 3) := by decide +kernel
theorem dX5_gossip_106 : decode cX5_gossip 106 = .ok (.bipush 36, 2) := by decide +kernel
theorem dX5_gossip_108 : decode cX5_gossip 108 = .ok (.iload_n 1, 1) := by decide +kernel
theorem dX5_gossip_109 : decode cX5_gossip 109 = .ok (.imul, 1) := by decide +kernel
theorem dX5_gossip_110 : decode cX5_gossip 110 = .ok (.iadd, 1) := by decide +kernel
theorem dX5_gossip_111 : decode cX5_gossip 111 = .ok (.bipush 6, 2) := by decide +kernel
theorem dX5_gossip_113 : decode cX5_gossip 113 = .ok (.iload 4, 2) := by decide +kernel
theorem dX5_gossip_115 : decode cX5_gossip 115 = .ok (.imul, 1) := by decide +kernel
theorem dX5_gossip_116 : decode cX5_gossip 116 = .ok (.iadd, 1) := by decide +kernel
theorem dX5_gossip_117 : decode cX5_gossip 117 = .ok (.iload 5, 2) := by decide +kernel
theorem dX5_gossip_119 : decode cX5_gossip 119 = .ok (.iadd, 1) := by decide +kernel
theorem dX5_gossip_120 : decode cX5_gossip 120 = .ok (.iaload, 1) := by decide +kernel
theorem dX5_gossip_121 : decode cX5_gossip 121 = .ok (.istore 7, 2) := by decide +kernel
theorem dX5_gossip_123 : decode cX5_gossip 123 = .ok (.iload 7, 2) := by decide +kernel
theorem dX5_gossip_125 : decode cX5_gossip 125 = .ok (.aload_n 0, 1) := by decide +kernel
theorem dX5_gossip_126 : decode cX5_gossip 126 = .ok (.getfield 9, 3) := by decide +kernel
theorem dX5_gossip_129 : decode cX5_gossip 129 = .ok (.iload 6, 2) := by decide +kernel
theorem dX5_gossip_131 : decode cX5_gossip 131 = .ok (.iaload, 1) := by decide +kernel
theorem dX5_gossip_132 : decode cX5_gossip 132 = .ok (.if_icmp .gt 6, 3) := by decide +kernel
theorem dX5_gossip_135 : decode cX5_gossip 135 = .ok (.goto 15, 3) := by decide +kernel
theorem dX5_gossip_138 : decode cX5_gossip 138 = .ok (.aload_n 0, 1) := by decide +kernel
theorem dX5_gossip_139 : decode cX5_gossip 139 = .ok (.getfield 9, 3) := by decide +kernel
theorem dX5_gossip_142 : decode cX5_gossip 142 = .ok (.iload 6, 2) := by decide +kernel
theorem dX5_gossip_144 : decode cX5_gossip 144 = .ok (.iload 7, 2) := by decide +kernel
theorem dX5_gossip_146 : decode cX5_gossip 146 = .ok (.iastore, 1) := by decide +kernel
theorem dX5_gossip_147 : decode cX5_gossip 147 = .ok (.iinc 3 1, 3) := by decide +kernel
theorem dX5_gossip_150 : decode cX5_gossip 150 = .ok (.iinc 5 1, 3) := by decide +kernel
theorem dX5_gossip_153 : decode cX5_gossip 153 = .ok (.goto (-86), 3) := by decide +kernel
theorem dX5_gossip_156 : decode cX5_gossip 156 = .ok (.iinc 4 1, 3) := by decide +kernel
theorem dX5_gossip_159 : decode cX5_gossip 159 = .ok (.goto (-102), 3) := by decide +kernel
theorem dX5_gossip_162 : decode cX5_gossip 162 = .ok (.iload_n 3, 1) := by decide +kernel
theorem dX5_gossip_163 : decode cX5_gossip 163 = .ok (.ireturn, 1) := by decide +kernel
theorem dX5_messageCount_0 : decode cX5_messageCount 0 = .ok (.aload_n 0, 1) := by decide +kernel
theorem dX5_messageCount_1 : decode cX5_messageCount 1 = .ok (.iconst 0, 1) := by decide +kernel
theorem dX5_messageCount_2 : decode cX5_messageCount 2 = .ok (.putfield 38, 3) := by decide +kernel
theorem dX5_messageCount_5 : decode cX5_messageCount 5 = .ok (.aload_n 0, 1) := by decide +kernel
theorem dX5_messageCount_6 : decode cX5_messageCount 6 = .ok (.getfield 9, 3) := by decide +kernel
theorem dX5_messageCount_9 : decode cX5_messageCount 9 = .ok (.bipush 44, 2) := by decide +kernel
theorem dX5_messageCount_11 : decode cX5_messageCount 11 = .ok (.iaload, 1) := by decide +kernel
theorem dX5_messageCount_12 : decode cX5_messageCount 12 = .ok (.ireturn, 1) := by decide +kernel
theorem dX5_message_0 : decode cX5_message 0 = .ok (.aload_n 0, 1) := by decide +kernel
theorem dX5_message_1 : decode cX5_message 1 = .ok (.iload_n 1, 1) := by decide +kernel
theorem dX5_message_2 : decode cX5_message 2 = .ok (.invokevirtual 108, 3) := by decide +kernel
theorem dX5_message_5 : decode cX5_message 5 = .ok (.ifCond .ne 5, 3) := by decide +kernel
theorem dX5_message_8 : decode cX5_message 8 = .ok (.iconst 0, 1) := by decide +kernel
theorem dX5_message_9 : decode cX5_message 9 = .ok (.ireturn, 1) := by decide +kernel
theorem dX5_message_10 : decode cX5_message 10 = .ok (.iload_n 2, 1) := by decide +kernel
theorem dX5_message_11 : decode cX5_message 11 = .ok (.iconst 0, 1) := by decide +kernel
theorem dX5_message_12 : decode cX5_message 12 = .ok (.iconst 3, 1) := by decide +kernel
theorem dX5_message_13 : decode cX5_message 13 = .ok (.invokestatic 41, 3) := by decide +kernel
theorem dX5_message_16 : decode cX5_message 16 = .ok (.ifCond .ne 9, 3) := by decide +kernel
theorem dX5_message_19 : decode cX5_message 19 = .ok (.aload_n 0, 1) := by decide +kernel
theorem dX5_message_20 : decode cX5_message 20 = .ok (.iconst 2, 1) := by decide +kernel
theorem dX5_message_21 : decode cX5_message 21 = .ok (.invokevirtual 59, 3) := by decide +kernel
theorem dX5_message_24 : decode cX5_message 24 = .ok (.ireturn, 1) := by decide +kernel
theorem dX5_message_25 : decode cX5_message 25 = .ok (.iload_n 2, 1) := by decide +kernel
theorem dX5_message_26 : decode cX5_message 26 = .ok (.ifCond .ne 15, 3) := by decide +kernel
theorem dX5_message_29 : decode cX5_message 29 = .ok (.aload_n 0, 1) := by decide +kernel
theorem dX5_message_30 : decode cX5_message 30 = .ok (.getfield 9, 3) := by decide +kernel
theorem dX5_message_33 : decode cX5_message 33 = .ok (.bipush 50, 2) := by decide +kernel
theorem dX5_message_35 : decode cX5_message 35 = .ok (.iload_n 1, 1) := by decide +kernel
theorem dX5_message_36 : decode cX5_message 36 = .ok (.iadd, 1) := by decide +kernel
theorem dX5_message_37 : decode cX5_message 37 = .ok (.iaload, 1) := by decide +kernel
theorem dX5_message_38 : decode cX5_message 38 = .ok (.goto 49, 3) := by decide +kernel
theorem dX5_message_41 : decode cX5_message 41 = .ok (.iload_n 2, 1) := by decide +kernel
theorem dX5_message_42 : decode cX5_message 42 = .ok (.iconst 1, 1) := by decide +kernel
theorem dX5_message_43 : decode cX5_message 43 = .ok (.if_icmp .ne 16, 3) := by decide +kernel
theorem dX5_message_46 : decode cX5_message 46 = .ok (.aload_n 0, 1) := by decide +kernel
theorem dX5_message_47 : decode cX5_message 47 = .ok (.getfield 9, 3) := by decide +kernel
theorem dX5_message_50 : decode cX5_message 50 = .ok (.sipush 200, 3) := by decide +kernel
theorem dX5_message_53 : decode cX5_message 53 = .ok (.iload_n 1, 1) := by decide +kernel
theorem dX5_message_54 : decode cX5_message 54 = .ok (.iadd, 1) := by decide +kernel
theorem dX5_message_55 : decode cX5_message 55 = .ok (.iaload, 1) := by decide +kernel
theorem dX5_message_56 : decode cX5_message 56 = .ok (.goto 31, 3) := by decide +kernel
theorem dX5_message_59 : decode cX5_message 59 = .ok (.iload_n 2, 1) := by decide +kernel
theorem dX5_message_60 : decode cX5_message 60 = .ok (.iconst 2, 1) := by decide +kernel
theorem dX5_message_61 : decode cX5_message 61 = .ok (.if_icmp .ne 16, 3) := by decide +kernel
theorem dX5_message_64 : decode cX5_message 64 = .ok (.aload_n 0, 1) := by decide +kernel
theorem dX5_message_65 : decode cX5_message 65 = .ok (.getfield 9, 3) := by decide +kernel
theorem dX5_message_68 : decode cX5_message 68 = .ok (.sipush 350, 3) := by decide +kernel
theorem dX5_message_71 : decode cX5_message 71 = .ok (.iload_n 1, 1) := by decide +kernel
theorem dX5_message_72 : decode cX5_message 72 = .ok (.iadd, 1) := by decide +kernel
theorem dX5_message_73 : decode cX5_message 73 = .ok (.iaload, 1) := by decide +kernel
theorem dX5_message_74 : decode cX5_message 74 = .ok (.goto 13, 3) := by decide +kernel
theorem dX5_message_77 : decode cX5_message 77 = .ok (.aload_n 0, 1) := by decide +kernel
theorem dX5_message_78 : decode cX5_message 78 = .ok (.getfield 9, 3) := by decide +kernel
theorem dX5_message_81 : decode cX5_message 81 = .ok (.sipush 500, 3) := by decide +kernel
theorem dX5_message_84 : decode cX5_message 84 = .ok (.iload_n 1, 1) := by decide +kernel
theorem dX5_message_85 : decode cX5_message 85 = .ok (.iadd, 1) := by decide +kernel
theorem dX5_message_86 : decode cX5_message 86 = .ok (.iaload, 1) := by decide +kernel
theorem dX5_message_87 : decode cX5_message 87 = .ok (.ireturn, 1) := by decide +kernel
theorem dX5_messageClock_0 : decode cX5_messageClock 0 = .ok (.aload_n 0, 1) := by decide +kernel
theorem dX5_messageClock_1 : decode cX5_messageClock 1 = .ok (.iconst 0, 1) := by decide +kernel
theorem dX5_messageClock_2 : decode cX5_messageClock 2 = .ok (.putfield 38, 3) := by decide +kernel
theorem dX5_messageClock_5 : decode cX5_messageClock 5 = .ok (.aload_n 0, 1) := by decide +kernel
theorem dX5_messageClock_6 : decode cX5_messageClock 6 = .ok (.iload_n 1, 1) := by decide +kernel
theorem dX5_messageClock_7 : decode cX5_messageClock 7 = .ok (.invokevirtual 56, 3) := by decide +kernel
theorem dX5_messageClock_10 : decode cX5_messageClock 10 = .ok (.ifCond .eq 28, 3) := by decide +kernel
theorem dX5_messageClock_13 : decode cX5_messageClock 13 = .ok (.iload_n 2, 1) := by decide +kernel
theorem dX5_messageClock_14 : decode cX5_messageClock 14 = .ok (.invokestatic 49, 3) := by decide +kernel
theorem dX5_messageClock_17 : decode cX5_messageClock 17 = .ok (.ifCond .eq 21, 3) := by decide +kernel
theorem dX5_messageClock_20 : decode cX5_messageClock 20 = .ok (.aload_n 0, 1) := by decide +kernel
theorem dX5_messageClock_21 : decode cX5_messageClock 21 = .ok (.getfield 9, 3) := by decide +kernel
theorem dX5_messageClock_24 : decode cX5_messageClock 24 = .ok (.sipush 650, 3) := by decide +kernel
theorem dX5_messageClock_27 : decode cX5_messageClock 27 = .ok (.bipush 6, 2) := by decide +kernel
theorem dX5_messageClock_29 : decode cX5_messageClock 29 = .ok (.iload_n 1, 1) := by decide +kernel
theorem dX5_messageClock_30 : decode cX5_messageClock 30 = .ok (.imul, 1) := by decide +kernel
theorem dX5_messageClock_31 : decode cX5_messageClock 31 = .ok (.iadd, 1) := by decide +kernel
theorem dX5_messageClock_32 : decode cX5_messageClock 32 = .ok (.iload_n 2, 1) := by decide +kernel
theorem dX5_messageClock_33 : decode cX5_messageClock 33 = .ok (.iadd, 1) := by decide +kernel
theorem dX5_messageClock_34 : decode cX5_messageClock 34 = .ok (.iaload, 1) := by decide +kernel
theorem dX5_messageClock_35 : decode cX5_messageClock 35 = .ok (.goto 8, 3) := by decide +kernel
theorem dX5_messageClock_38 : decode cX5_messageClock 38 = .ok (.aload_n 0, 1) := by decide +kernel
theorem dX5_messageClock_39 : decode cX5_messageClock 39 = .ok (.iconst 1, 1) := by decide +kernel
theorem dX5_messageClock_40 : decode cX5_messageClock 40 = .ok (.invokevirtual 59, 3) := by decide +kernel
theorem dX5_messageClock_43 : decode cX5_messageClock 43 = .ok (.ireturn, 1) := by decide +kernel
theorem dX5_isCauseOf_0 : decode cX5_isCauseOf 0 = .ok (.iload_n 1, 1) := by decide +kernel
theorem dX5_isCauseOf_1 : decode cX5_isCauseOf 1 = .ok (.iload_n 2, 1) := by decide +kernel
theorem dX5_isCauseOf_2 : decode cX5_isCauseOf 2 = .ok (.if_icmp .eq 66, 3) := by decide +kernel
theorem dX5_isCauseOf_5 : decode cX5_isCauseOf 5 = .ok (.aload_n 0, 1) := by decide +kernel
theorem dX5_isCauseOf_6 : decode cX5_isCauseOf 6 = .ok (.getfield 9, 3) := by decide +kernel
theorem dX5_isCauseOf_9 : decode cX5_isCauseOf 9 = .ok (.sipush 350, 3) := by decide +kernel
theorem dX5_isCauseOf_12 : decode cX5_isCauseOf 12 = .ok (.iload_n 1, 1) := by decide +kernel
theorem dX5_isCauseOf_13 : decode cX5_isCauseOf 13 = .ok (.iadd, 1) := by decide +kernel
theorem dX5_isCauseOf_14 : decode cX5_isCauseOf 14 = .ok (.iaload, 1) := by decide +kernel
theorem dX5_isCauseOf_15 : decode cX5_isCauseOf 15 = .ok (.aload_n 0, 1) := by decide +kernel
theorem dX5_isCauseOf_16 : decode cX5_isCauseOf 16 = .ok (.getfield 9, 3) := by decide +kernel
theorem dX5_isCauseOf_19 : decode cX5_isCauseOf 19 = .ok (.sipush 350, 3) := by decide +kernel
theorem dX5_isCauseOf_22 : decode cX5_isCauseOf 22 = .ok (.iload_n 2, 1) := by decide +kernel
theorem dX5_isCauseOf_23 : decode cX5_isCauseOf 23 = .ok (.iadd, 1) := by decide +kernel
theorem dX5_isCauseOf_24 : decode cX5_isCauseOf 24 = .ok (.iaload, 1) := by decide +kernel
theorem dX5_isCauseOf_25 : decode cX5_isCauseOf 25 = .ok (.if_icmp .ne 43, 3) := by decide +kernel
theorem dX5_isCauseOf_28 : decode cX5_isCauseOf 28 = .ok (.aload_n 0, 1) := by decide +kernel
theorem dX5_isCauseOf_29 : decode cX5_isCauseOf 29 = .ok (.getfield 9, 3) := by decide +kernel
theorem dX5_isCauseOf_32 : decode cX5_isCauseOf 32 = .ok (.sipush 650, 3) := by decide +kernel
theorem dX5_isCauseOf_35 : decode cX5_isCauseOf 35 = .ok (.bipush 6, 2) := by decide +kernel
theorem dX5_isCauseOf_37 : decode cX5_isCauseOf 37 = .ok (.iload_n 2, 1) := by decide +kernel
theorem dX5_isCauseOf_38 : decode cX5_isCauseOf 38 = .ok (.imul, 1) := by decide +kernel
theorem dX5_isCauseOf_39 : decode cX5_isCauseOf 39 = .ok (.iadd, 1) := by decide +kernel
theorem dX5_isCauseOf_40 : decode cX5_isCauseOf 40 = .ok (.aload_n 0, 1) := by decide +kernel
theorem dX5_isCauseOf_41 : decode cX5_isCauseOf 41 = .ok (.getfield 9, 3) := by decide +kernel
theorem dX5_isCauseOf_44 : decode cX5_isCauseOf 44 = .ok (.bipush 50, 2) := by decide +kernel
theorem dX5_isCauseOf_46 : decode cX5_isCauseOf 46 = .ok (.iload_n 1, 1) := by decide +kernel
theorem dX5_isCauseOf_47 : decode cX5_isCauseOf 47 = .ok (.iadd, 1) := by decide +kernel
theorem dX5_isCauseOf_48 : decode cX5_isCauseOf 48 = .ok (.iaload, 1) := by decide +kernel
theorem dX5_isCauseOf_49 : decode cX5_isCauseOf 49 = .ok (.iadd, 1) := by decide +kernel
theorem dX5_isCauseOf_50 : decode cX5_isCauseOf 50 = .ok (.iaload, 1) := by decide +kernel
theorem dX5_isCauseOf_51 : decode cX5_isCauseOf 51 = .ok (.aload_n 0, 1) := by decide +kernel
theorem dX5_isCauseOf_52 : decode cX5_isCauseOf 52 = .ok (.getfield 9, 3) := by decide +kernel
theorem dX5_isCauseOf_55 : decode cX5_isCauseOf 55 = .ok (.sipush 500, 3) := by decide +kernel
theorem dX5_isCauseOf_58 : decode cX5_isCauseOf 58 = .ok (.iload_n 1, 1) := by decide +kernel
theorem dX5_isCauseOf_59 : decode cX5_isCauseOf 59 = .ok (.iadd, 1) := by decide +kernel
theorem dX5_isCauseOf_60 : decode cX5_isCauseOf 60 = .ok (.iaload, 1) := by decide +kernel
theorem dX5_isCauseOf_61 : decode cX5_isCauseOf 61 = .ok (.if_icmp .lt 7, 3) := by decide +kernel
theorem dX5_isCauseOf_64 : decode cX5_isCauseOf 64 = .ok (.iconst 1, 1) := by decide +kernel
theorem dX5_isCauseOf_65 : decode cX5_isCauseOf 65 = .ok (.goto 4, 3) := by decide +kernel
theorem dX5_isCauseOf_68 : decode cX5_isCauseOf 68 = .ok (.iconst 0, 1) := by decide +kernel
theorem dX5_isCauseOf_69 : decode cX5_isCauseOf 69 = .ok (.ireturn, 1) := by decide +kernel
theorem dX5_isCause_0 : decode cX5_isCause 0 = .ok (.aload_n 0, 1) := by decide +kernel
theorem dX5_isCause_1 : decode cX5_isCause 1 = .ok (.aload_n 0, 1) := by decide +kernel
theorem dX5_isCause_2 : decode cX5_isCause 2 = .ok (.iload_n 1, 1) := by decide +kernel
theorem dX5_isCause_3 : decode cX5_isCause 3 = .ok (.invokevirtual 56, 3) := by decide +kernel
theorem dX5_isCause_6 : decode cX5_isCause 6 = .ok (.ifCond .eq 15, 3) := by decide +kernel
theorem dX5_isCause_9 : decode cX5_isCause 9 = .ok (.aload_n 0, 1) := by decide +kernel
theorem dX5_isCause_10 : decode cX5_isCause 10 = .ok (.iload_n 2, 1) := by decide +kernel
theorem dX5_isCause_11 : decode cX5_isCause 11 = .ok (.invokevirtual 56, 3) := by decide +kernel
theorem dX5_isCause_14 : decode cX5_isCause 14 = .ok (.ifCond .eq 7, 3) := by decide +kernel
theorem dX5_isCause_17 : decode cX5_isCause 17 = .ok (.iconst 0, 1) := by decide +kernel
theorem dX5_isCause_18 : decode cX5_isCause 18 = .ok (.goto 4, 3) := by decide +kernel
theorem dX5_isCause_21 : decode cX5_isCause 21 = .ok (.iconst 1, 1) := by decide +kernel
theorem dX5_isCause_22 : decode cX5_isCause 22 = .ok (.putfield 38, 3) := by decide +kernel
theorem dX5_isCause_25 : decode cX5_isCause 25 = .ok (.aload_n 0, 1) := by decide +kernel
theorem dX5_isCause_26 : decode cX5_isCause 26 = .ok (.getfield 38, 3) := by decide +kernel
theorem dX5_isCause_29 : decode cX5_isCause 29 = .ok (.ifCond .ne 16, 3) := by decide +kernel
theorem dX5_isCause_32 : decode cX5_isCause 32 = .ok (.aload_n 0, 1) := by decide +kernel
theorem dX5_isCause_33 : decode cX5_isCause 33 = .ok (.iload_n 1, 1) := by decide +kernel
theorem dX5_isCause_34 : decode cX5_isCause 34 = .ok (.iload_n 2, 1) := by decide +kernel
theorem dX5_isCause_35 : decode cX5_isCause 35 = .ok (.invokevirtual 111, 3) := by decide +kernel
theorem dX5_isCause_38 : decode cX5_isCause 38 = .ok (.ifCond .eq 7, 3) := by decide +kernel
theorem dX5_isCause_41 : decode cX5_isCause 41 = .ok (.iconst 1, 1) := by decide +kernel
theorem dX5_isCause_42 : decode cX5_isCause 42 = .ok (.goto 4, 3) := by decide +kernel
theorem dX5_isCause_45 : decode cX5_isCause 45 = .ok (.iconst 0, 1) := by decide +kernel
theorem dX5_isCause_46 : decode cX5_isCause 46 = .ok (.ireturn, 1) := by decide +kernel
theorem dX5_causes_0 : decode cX5_causes 0 = .ok (.aload_n 0, 1) := by decide +kernel
theorem dX5_causes_1 : decode cX5_causes 1 = .ok (.iload_n 1, 1) := by decide +kernel
theorem dX5_causes_2 : decode cX5_causes 2 = .ok (.invokevirtual 108, 3) := by decide +kernel
theorem dX5_causes_5 : decode cX5_causes 5 = .ok (.ifCond .ne 5, 3) := by decide +kernel
theorem dX5_causes_8 : decode cX5_causes 8 = .ok (.iconst 0, 1) := by decide +kernel
theorem dX5_causes_9 : decode cX5_causes 9 = .ok (.ireturn, 1) := by decide +kernel
theorem dX5_causes_10 : decode cX5_causes 10 = .ok (.iconst 0, 1) := by decide +kernel
theorem dX5_causes_11 : decode cX5_causes 11 = .ok (.istore_n 2, 1) := by decide +kernel
theorem dX5_causes_12 : decode cX5_causes 12 = .ok (.iconst 0, 1) := by decide +kernel
theorem dX5_causes_13 : decode cX5_causes 13 = .ok (.istore_n 3, 1) := by decide +kernel
theorem dX5_causes_14 : decode cX5_causes 14 = .ok (.iload_n 3, 1) := by decide +kernel
theorem dX5_causes_15 : decode cX5_causes 15 = .ok (.aload_n 0, 1) := by decide +kernel
theorem dX5_causes_16 : decode cX5_causes 16 = .ok (.getfield 9, 3) := by decide +kernel
theorem dX5_causes_19 : decode cX5_causes 19 = .ok (.bipush 44, 2) := by decide +kernel
theorem dX5_causes_21 : decode cX5_causes 21 = .ok (.iaload, 1) := by decide +kernel
theorem dX5_causes_22 : decode cX5_causes 22 = .ok (.if_icmp .ge 26, 3) := by decide +kernel
theorem dX5_causes_25 : decode cX5_causes 25 = .ok (.iload_n 2, 1) := by decide +kernel
theorem dX5_causes_26 : decode cX5_causes 26 = .ok (.aload_n 0, 1) := by decide +kernel
theorem dX5_causes_27 : decode cX5_causes 27 = .ok (.iload_n 3, 1) := by decide +kernel
theorem dX5_causes_28 : decode cX5_causes 28 = .ok (.iload_n 1, 1) := by decide +kernel
theorem dX5_causes_29 : decode cX5_causes 29 = .ok (.invokevirtual 111, 3) := by decide +kernel
theorem dX5_causes_32 : decode cX5_causes 32 = .ok (.ifCond .eq 7, 3) := by decide +kernel
theorem dX5_causes_35 : decode cX5_causes 35 = .ok (.iconst 1, 1) := by decide +kernel
theorem dX5_causes_36 : decode cX5_causes 36 = .ok (.goto 4, 3) := by decide +kernel
theorem dX5_causes_39 : decode cX5_causes 39 = .ok (.iconst 0, 1) := by decide +kernel
theorem dX5_causes_40 : decode cX5_causes 40 = .ok (.iadd, 1) := by decide +kernel
theorem dX5_causes_41 : decode cX5_causes 41 = .ok (.istore_n 2, 1) := by decide +kernel
theorem dX5_causes_42 : decode cX5_causes 42 = .ok (.iinc 3 1, 3) := by decide +kernel
theorem dX5_causes_45 : decode cX5_causes 45 = .ok (.goto (-31), 3) := by decide +kernel
theorem dX5_causes_48 : decode cX5_causes 48 = .ok (.iload_n 2, 1) := by decide +kernel
theorem dX5_causes_49 : decode cX5_causes 49 = .ok (.ireturn, 1) := by decide +kernel
theorem dX5_concurrent_0 : decode cX5_concurrent 0 = .ok (.aload_n 0, 1) := by decide +kernel
theorem dX5_concurrent_1 : decode cX5_concurrent 1 = .ok (.iload_n 1, 1) := by decide +kernel
theorem dX5_concurrent_2 : decode cX5_concurrent 2 = .ok (.invokevirtual 108, 3) := by decide +kernel
theorem dX5_concurrent_5 : decode cX5_concurrent 5 = .ok (.ifCond .ne 5, 3) := by decide +kernel
theorem dX5_concurrent_8 : decode cX5_concurrent 8 = .ok (.iconst 0, 1) := by decide +kernel
theorem dX5_concurrent_9 : decode cX5_concurrent 9 = .ok (.ireturn, 1) := by decide +kernel
theorem dX5_concurrent_10 : decode cX5_concurrent 10 = .ok (.iconst 0, 1) := by decide +kernel
theorem dX5_concurrent_11 : decode cX5_concurrent 11 = .ok (.istore_n 2, 1) := by decide +kernel
theorem dX5_concurrent_12 : decode cX5_concurrent 12 = .ok (.iconst 0, 1) := by decide +kernel
theorem dX5_concurrent_13 : decode cX5_concurrent 13 = .ok (.istore_n 3, 1) := by decide +kernel
theorem dX5_concurrent_14 : decode cX5_concurrent 14 = .ok (.iload_n 3, 1) := by decide +kernel
theorem dX5_concurrent_15 : decode cX5_concurrent 15 = .ok (.aload_n 0, 1) := by decide +kernel
theorem dX5_concurrent_16 : decode cX5_concurrent 16 = .ok (.getfield 9, 3) := by decide +kernel
theorem dX5_concurrent_19 : decode cX5_concurrent 19 = .ok (.bipush 44, 2) := by decide +kernel
theorem dX5_concurrent_21 : decode cX5_concurrent 21 = .ok (.iaload, 1) := by decide +kernel
theorem dX5_concurrent_22 : decode cX5_concurrent 22 = .ok (.if_icmp .ge 63, 3) := by decide +kernel
theorem dX5_concurrent_25 : decode cX5_concurrent 25 = .ok (.iload_n 2, 1) := by decide +kernel
theorem dX5_concurrent_26 : decode cX5_concurrent 26 = .ok (.iload_n 3, 1) := by decide +kernel
theorem dX5_concurrent_27 : decode cX5_concurrent 27 = .ok (.iload_n 1, 1) := by decide +kernel
theorem dX5_concurrent_28 : decode cX5_concurrent 28 = .ok (.if_icmp .eq 48, 3) := by decide +kernel
theorem dX5_concurrent_31 : decode cX5_concurrent 31 = .ok (.aload_n 0, 1) := by decide +kernel
theorem dX5_concurrent_32 : decode cX5_concurrent 32 = .ok (.getfield 9, 3) := by decide +kernel
theorem dX5_concurrent_35 : decode cX5_concurrent 35 = .ok (.sipush 350, 3) := by decide +kernel
theorem dX5_concurrent_38 : decode cX5_concurrent 38 = .ok (.iload_n 3, 1) := by decide +kernel
theorem dX5_concurrent_39 : decode cX5_concurrent 39 = .ok (.iadd, 1) := by decide +kernel
theorem dX5_concurrent_40 : decode cX5_concurrent 40 = .ok (.iaload, 1) := by decide +kernel
theorem dX5_concurrent_41 : decode cX5_concurrent 41 = .ok (.aload_n 0, 1) := by decide +kernel
theorem dX5_concurrent_42 : decode cX5_concurrent 42 = .ok (.getfield 9, 3) := by decide +kernel
theorem dX5_concurrent_45 : decode cX5_concurrent 45 = .ok (.sipush 350, 3) := by decide +kernel
theorem dX5_concurrent_48 : decode cX5_concurrent 48 = .ok (.iload_n 1, 1) := by decide +kernel
theorem dX5_concurrent_49 : decode cX5_concurrent 49 = .ok (.iadd, 1) := by decide +kernel
theorem dX5_concurrent_50 : decode cX5_concurrent 50 = .ok (.iaload, 1) := by decide +kernel
theorem dX5_concurrent_51 : decode cX5_concurrent 51 = .ok (.if_icmp .ne 25, 3) := by decide +kernel
theorem dX5_concurrent_54 : decode cX5_concurrent 54 = .ok (.aload_n 0, 1) := by decide +kernel
theorem dX5_concurrent_55 : decode cX5_concurrent 55 = .ok (.iload_n 3, 1) := by decide +kernel
theorem dX5_concurrent_56 : decode cX5_concurrent 56 = .ok (.iload_n 1, 1) := by decide +kernel
theorem dX5_concurrent_57 : decode cX5_concurrent 57 = .ok (.invokevirtual 111, 3) := by decide +kernel
theorem dX5_concurrent_60 : decode cX5_concurrent 60 = .ok (.ifCond .ne 16, 3) := by decide +kernel
theorem dX5_concurrent_63 : decode cX5_concurrent 63 = .ok (.aload_n 0, 1) := by decide +kernel
theorem dX5_concurrent_64 : decode cX5_concurrent 64 = .ok (.iload_n 1, 1) := by decide +kernel
theorem dX5_concurrent_65 : decode cX5_concurrent 65 = .ok (.iload_n 3, 1) := by decide +kernel
theorem dX5_concurrent_66 : decode cX5_concurrent 66 = .ok (.invokevirtual 111, 3) := by decide +kernel
theorem dX5_concurrent_69 : decode cX5_concurrent 69 = .ok (.ifCond .ne 7, 3) := by decide +kernel
theorem dX5_concurrent_72 : decode cX5_concurrent 72 = .ok (.iconst 1, 1) := by decide +kernel
theorem dX5_concurrent_73 : decode cX5_concurrent 73 = .ok (.goto 4, 3) := by decide +kernel
theorem dX5_concurrent_76 : decode cX5_concurrent 76 = .ok (.iconst 0, 1) := by decide +kernel
theorem dX5_concurrent_77 : decode cX5_concurrent 77 = .ok (.iadd, 1) := by decide +kernel
theorem dX5_concurrent_78 : decode cX5_concurrent 78 = .ok (.istore_n 2, 1) := by decide +kernel
theorem dX5_concurrent_79 : decode cX5_concurrent 79 = .ok (.iinc 3 1, 3) := by decide +kernel
theorem dX5_concurrent_82 : decode cX5_concurrent 82 = .ok (.goto (-68), 3) := by decide +kernel
theorem dX5_concurrent_85 : decode cX5_concurrent 85 = .ok (.iload_n 2, 1) := by decide +kernel
theorem dX5_concurrent_86 : decode cX5_concurrent 86 = .ok (.ireturn, 1) := by decide +kernel
theorem dX5_longestChain_0 : decode cX5_longestChain 0 = .ok (.aload_n 0, 1) := by decide +kernel
theorem dX5_longestChain_1 : decode cX5_longestChain 1 = .ok (.iconst 0, 1) := by decide +kernel
theorem dX5_longestChain_2 : decode cX5_longestChain 2 = .ok (.putfield 38, 3) := by decide +kernel
theorem dX5_longestChain_5 : decode cX5_longestChain 5 = .ok (.iload_n 1, 1) := by decide +kernel
theorem dX5_longestChain_6 : decode cX5_longestChain 6 = .ok (.iconst 0, 1) := by decide +kernel
theorem dX5_longestChain_7 : decode cX5_longestChain 7 = .ok (.aload_n 0, 1) := by decide +kernel
theorem dX5_longestChain_8 : decode cX5_longestChain 8 = .ok (.getfield 9, 3) := by decide +kernel
theorem dX5_longestChain_11 : decode cX5_longestChain 11 = .ok (.bipush 42, 2) := by decide +kernel
theorem dX5_longestChain_13 : decode cX5_longestChain 13 = .ok (.iaload, 1) := by decide +kernel
theorem dX5_longestChain_14 : decode cX5_longestChain 14 = .ok (.invokestatic 41, 3) := by decide +kernel
theorem dX5_longestChain_17 : decode cX5_longestChain 17 = .ok (.ifCond .ne 9, 3) := by decide +kernel
theorem dX5_longestChain_20 : decode cX5_longestChain 20 = .ok (.aload_n 0, 1) := by decide +kernel
theorem dX5_longestChain_21 : decode cX5_longestChain 21 = .ok (.iconst 1, 1) := by decide +kernel
theorem dX5_longestChain_22 : decode cX5_longestChain 22 = .ok (.invokevirtual 59, 3) := by decide +kernel
theorem dX5_longestChain_25 : decode cX5_longestChain 25 = .ok (.ireturn, 1) := by decide +kernel
theorem dX5_longestChain_26 : decode cX5_longestChain 26 = .ok (.iconst 0, 1) := by decide +kernel
theorem dX5_longestChain_27 : decode cX5_longestChain 27 = .ok (.istore_n 2, 1) := by decide +kernel
theorem dX5_longestChain_28 : decode cX5_longestChain 28 = .ok (.iconst 0, 1) := by decide +kernel
theorem dX5_longestChain_29 : decode cX5_longestChain 29 = .ok (.istore_n 3, 1) := by decide +kernel
theorem dX5_longestChain_30 : decode cX5_longestChain 30 = .ok (.iload_n 3, 1) := by decide +kernel
theorem dX5_longestChain_31 : decode cX5_longestChain 31 = .ok (.aload_n 0, 1) := by decide +kernel
theorem dX5_longestChain_32 : decode cX5_longestChain 32 = .ok (.getfield 9, 3) := by decide +kernel
theorem dX5_longestChain_35 : decode cX5_longestChain 35 = .ok (.bipush 44, 2) := by decide +kernel
theorem dX5_longestChain_37 : decode cX5_longestChain 37 = .ok (.iaload, 1) := by decide +kernel
theorem dX5_longestChain_38 : decode cX5_longestChain 38 = .ok (.if_icmp .ge 110, 3) := by decide +kernel
theorem dX5_longestChain_41 : decode cX5_longestChain 41 = .ok (.aload_n 0, 1) := by decide +kernel
theorem dX5_longestChain_42 : decode cX5_longestChain 42 = .ok (.getfield 9, 3) := by decide +kernel
theorem dX5_longestChain_45 : decode cX5_longestChain 45 = .ok (.sipush 350, 3) := by decide +kernel
theorem dX5_longestChain_48 : decode cX5_longestChain 48 = .ok (.iload_n 3, 1) := by decide +kernel
theorem dX5_longestChain_49 : decode cX5_longestChain 49 = .ok (.iadd, 1) := by decide +kernel
theorem dX5_longestChain_50 : decode cX5_longestChain 50 = .ok (.iaload, 1) := by decide +kernel
theorem dX5_longestChain_51 : decode cX5_longestChain 51 = .ok (.iload_n 1, 1) := by decide +kernel
theorem dX5_longestChain_52 : decode cX5_longestChain 52 = .ok (.if_icmp .eq 6, 3) := by decide +kernel
theorem dX5_longestChain_55 : decode cX5_longestChain 55 = .ok (.goto 87, 3) := by decide +kernel
theorem dX5_longestChain_58 : decode cX5_longestChain 58 = .ok (.aload_n 0, 1) := by decide +kernel
theorem dX5_longestChain_59 : decode cX5_longestChain 59 = .ok (.getfield 26, 3) := by decide +kernel
theorem dX5_longestChain_62 : decode cX5_longestChain 62 = .ok (.iload_n 3, 1) := by decide +kernel
theorem dX5_longestChain_63 : decode cX5_longestChain 63 = .ok (.iconst 1, 1) := by decide +kernel
theorem dX5_longestChain_64 : decode cX5_longestChain 64 = .ok (.iastore, 1) := by decide +kernel
theorem dX5_longestChain_65 : decode cX5_longestChain 65 = .ok (.iconst 0, 1) := by decide +kernel
theorem dX5_longestChain_66 : decode cX5_longestChain 66 = .ok (.istore 4, 2) := by decide +kernel
theorem dX5_longestChain_68 : decode cX5_longestChain 68 = .ok (.iload 4, 2) := by decide +kernel
theorem dX5_longestChain_70 : decode cX5_longestChain 70 = .ok (.iload_n 3, 1) := by decide +kernel
theorem dX5_longestChain_71 : decode cX5_longestChain 71 = .ok (.if_icmp .ge 50, 3) := by decide +kernel
theorem dX5_longestChain_74 : decode cX5_longestChain 74 = .ok (.aload_n 0, 1) := by decide +kernel
theorem dX5_longestChain_75 : decode cX5_longestChain 75 = .ok (.iload 4, 2) := by decide +kernel
theorem dX5_longestChain_77 : decode cX5_longestChain 77 = .ok (.iload_n 3, 1) := by decide +kernel
theorem dX5_longestChain_78 : decode cX5_longestChain 78 = .ok (.invokevirtual 111, 3) := by decide +kernel
theorem dX5_longestChain_81 : decode cX5_longestChain 81 = .ok (.ifCond .eq 34, 3) := by decide +kernel
theorem dX5_longestChain_84 : decode cX5_longestChain 84 = .ok (.aload_n 0, 1) := by decide +kernel
theorem dX5_longestChain_85 : decode cX5_longestChain 85 = .ok (.getfield 26, 3) := by decide +kernel
theorem dX5_longestChain_88 : decode cX5_longestChain 88 = .ok (.iload 4, 2) := by decide +kernel
theorem dX5_longestChain_90 : decode cX5_longestChain 90 = .ok (.iaload, 1) := by decide +kernel
theorem dX5_longestChain_91 : decode cX5_longestChain 91 = .ok (.aload_n 0, 1) := by decide +kernel
theorem dX5_longestChain_92 : decode cX5_longestChain 92 = .ok (.getfield 26, 3) := by decide +kernel
theorem dX5_longestChain_95 : decode cX5_longestChain 95 = .ok (.iload_n 3, 1) := by decide +kernel
theorem dX5_longestChain_96 : decode cX5_longestChain 96 = .ok (.iaload, 1) := by decide +kernel
theorem dX5_longestChain_97 : decode cX5_longestChain 97 = .ok (.if_icmp .lt 18, 3) := by decide +kernel
theorem dX5_longestChain_100 : decode cX5_longestChain 100 = .ok (.aload_n 0, 1) := by decide +kernel
theorem dX5_longestChain_101 : decode cX5_longestChain 101 = .ok (.getfield 26, 3) := by decide +kernel
theorem dX5_longestChain_104 : decode cX5_longestChain 104 = .ok (.iload_n 3, 1) := by decide +kernel
theorem dX5_longestChain_105 : decode cX5_longestChain 105 = .ok (.aload_n 0, 1) := by decide +kernel
theorem dX5_longestChain_106 : decode cX5_longestChain 106 = .ok (.getfield 26, 3) := by decide +kernel
theorem dX5_longestChain_109 : decode cX5_longestChain 109 = .ok (.iload 4, 2) := by decide +kernel
theorem dX5_longestChain_111 : decode cX5_longestChain 111 = .ok (.iaload, 1) := by decide +kernel
theorem dX5_longestChain_112 : decode cX5_longestChain 112 = .ok (.iconst 1, 1) := by decide +kernel
theorem dX5_longestChain_113 : decode cX5_longestChain 113 = .ok (.iadd, 1) := by decide +kernel
theorem dX5_longestChain_114 : decode cX5_longestChain 114 = .ok (.iastore, 1) := by decide +kernel
theorem dX5_longestChain_115 : decode cX5_longestChain 115 = .ok (.iinc 4 1, 3) := by decide +kernel
theorem dX5_longestChain_118 : decode cX5_longestChain 118 = .ok (.goto (-50), 3) := by decide +kernel
theorem dX5_longestChain_121 : decode cX5_longestChain 121 = .ok (.aload_n 0, 1) := by decide +kernel
theorem dX5_longestChain_122 : decode cX5_longestChain 122 = .ok (.getfield 26, 3) := by decide +kernel
theorem dX5_longestChain_125 : decode cX5_longestChain 125 = .ok (.iload_n 3, 1) := by decide +kernel
theorem dX5_longestChain_126 : decode cX5_longestChain 126 = .ok (.iaload, 1) := by decide +kernel
theorem dX5_longestChain_127 : decode cX5_longestChain 127 = .ok (.iload_n 2, 1) := by decide +kernel
theorem dX5_longestChain_128 : decode cX5_longestChain 128 = .ok (.if_icmp .le 12, 3) := by decide +kernel
theorem dX5_longestChain_131 : decode cX5_longestChain 131 = .ok (.aload_n 0, 1) := by decide +kernel
theorem dX5_longestChain_132 : decode cX5_longestChain 132 = .ok (.getfield 26, 3) := by decide +kernel
theorem dX5_longestChain_135 : decode cX5_longestChain 135 = .ok (.iload_n 3, 1) := by decide +kernel
theorem dX5_longestChain_136 : decode cX5_longestChain 136 = .ok (.iaload, 1) := by decide +kernel
theorem dX5_longestChain_137 : decode cX5_longestChain 137 = .ok (.goto 4, 3) := by decide +kernel
theorem dX5_longestChain_140 : decode cX5_longestChain 140 = .ok (.iload_n 2, 1) := by decide +kernel
theorem dX5_longestChain_141 : decode cX5_longestChain 141 = .ok (.istore_n 2, 1) := by decide +kernel
theorem dX5_longestChain_142 : decode cX5_longestChain 142 = .ok (.iinc 3 1, 3) := by decide +kernel
theorem dX5_longestChain_145 : decode cX5_longestChain 145 = .ok (.goto (-115), 3) := by decide +kernel
theorem dX5_longestChain_148 : decode cX5_longestChain 148 = .ok (.iload_n 2, 1) := by decide +kernel
theorem dX5_longestChain_149 : decode cX5_longestChain 149 = .ok (.ireturn, 1) := by decide +kernel
theorem dX5_duplicates_0 : decode cX5_duplicates 0 = .ok (.aload_n 0, 1) := by decide +kernel
theorem dX5_duplicates_1 : decode cX5_duplicates 1 = .ok (.iconst 0, 1) := by decide +kernel
theorem dX5_duplicates_2 : decode cX5_duplicates 2 = .ok (.putfield 38, 3) := by decide +kernel
theorem dX5_duplicates_5 : decode cX5_duplicates 5 = .ok (.aload_n 0, 1) := by decide +kernel
theorem dX5_duplicates_6 : decode cX5_duplicates 6 = .ok (.getfield 9, 3) := by decide +kernel
theorem dX5_duplicates_9 : decode cX5_duplicates 9 = .ok (.bipush 45, 2) := by decide +kernel
theorem dX5_duplicates_11 : decode cX5_duplicates 11 = .ok (.iaload, 1) := by decide +kernel
theorem dX5_duplicates_12 : decode cX5_duplicates 12 = .ok (.ireturn, 1) := by decide +kernel
theorem dX5_logLength_0 : decode cX5_logLength 0 = .ok (.aload_n 0, 1) := by decide +kernel
theorem dX5_logLength_1 : decode cX5_logLength 1 = .ok (.iload_n 1, 1) := by decide +kernel
theorem dX5_logLength_2 : decode cX5_logLength 2 = .ok (.invokevirtual 63, 3) := by decide +kernel
theorem dX5_logLength_5 : decode cX5_logLength 5 = .ok (.ifCond .eq 16, 3) := by decide +kernel
theorem dX5_logLength_8 : decode cX5_logLength 8 = .ok (.aload_n 0, 1) := by decide +kernel
theorem dX5_logLength_9 : decode cX5_logLength 9 = .ok (.getfield 9, 3) := by decide +kernel
theorem dX5_logLength_12 : decode cX5_logLength 12 = .ok (.sipush 1550, 3) := by decide +kernel
theorem dX5_logLength_15 : decode cX5_logLength 15 = .ok (.iload_n 1, 1) := by decide +kernel
theorem dX5_logLength_16 : decode cX5_logLength 16 = .ok (.iadd, 1) := by decide +kernel
theorem dX5_logLength_17 : decode cX5_logLength 17 = .ok (.iaload, 1) := by decide +kernel
theorem dX5_logLength_18 : decode cX5_logLength 18 = .ok (.goto 4, 3) := by decide +kernel
theorem dX5_logLength_21 : decode cX5_logLength 21 = .ok (.iconst 0, 1) := by decide +kernel
theorem dX5_logLength_22 : decode cX5_logLength 22 = .ok (.ireturn, 1) := by decide +kernel
theorem dX5_logged_0 : decode cX5_logged 0 = .ok (.aload_n 0, 1) := by decide +kernel
theorem dX5_logged_1 : decode cX5_logged 1 = .ok (.iload_n 1, 1) := by decide +kernel
theorem dX5_logged_2 : decode cX5_logged 2 = .ok (.invokevirtual 63, 3) := by decide +kernel
theorem dX5_logged_5 : decode cX5_logged 5 = .ok (.ifCond .ne 5, 3) := by decide +kernel
theorem dX5_logged_8 : decode cX5_logged 8 = .ok (.iconst 0, 1) := by decide +kernel
theorem dX5_logged_9 : decode cX5_logged 9 = .ok (.ireturn, 1) := by decide +kernel
theorem dX5_logged_10 : decode cX5_logged 10 = .ok (.iload_n 2, 1) := by decide +kernel
theorem dX5_logged_11 : decode cX5_logged 11 = .ok (.iconst 0, 1) := by decide +kernel
theorem dX5_logged_12 : decode cX5_logged 12 = .ok (.aload_n 0, 1) := by decide +kernel
theorem dX5_logged_13 : decode cX5_logged 13 = .ok (.getfield 9, 3) := by decide +kernel
theorem dX5_logged_16 : decode cX5_logged 16 = .ok (.sipush 1550, 3) := by decide +kernel
theorem dX5_logged_19 : decode cX5_logged 19 = .ok (.iload_n 1, 1) := by decide +kernel
theorem dX5_logged_20 : decode cX5_logged 20 = .ok (.iadd, 1) := by decide +kernel
theorem dX5_logged_21 : decode cX5_logged 21 = .ok (.iaload, 1) := by decide +kernel
theorem dX5_logged_22 : decode cX5_logged 22 = .ok (.iconst 1, 1) := by decide +kernel
theorem dX5_logged_23 : decode cX5_logged 23 = .ok (.isub, 1) := by decide +kernel
theorem dX5_logged_24 : decode cX5_logged 24 = .ok (.invokestatic 41, 3) := by decide +kernel
theorem dX5_logged_27 : decode cX5_logged 27 = .ok (.ifCond .eq 22, 3) := by decide +kernel
theorem dX5_logged_30 : decode cX5_logged 30 = .ok (.aload_n 0, 1) := by decide +kernel
theorem dX5_logged_31 : decode cX5_logged 31 = .ok (.getfield 9, 3) := by decide +kernel
theorem dX5_logged_34 : decode cX5_logged 34 = .ok (.sipush 1560, 3) := by decide +kernel
theorem dX5_logged_37 : decode cX5_logged 37 = .ok (.sipush 150, 3) := by decide +kernel
theorem dX5_logged_40 : decode cX5_logged 40 = .ok (.iload_n 1, 1) := by decide +kernel
theorem dX5_logged_41 : decode cX5_logged 41 = .ok (.imul, 1) := by decide +kernel
theorem dX5_logged_42 : decode cX5_logged 42 = .ok (.iadd, 1) := by decide +kernel
theorem dX5_logged_43 : decode cX5_logged 43 = .ok (.iload_n 2, 1) := by decide +kernel
theorem dX5_logged_44 : decode cX5_logged 44 = .ok (.iadd, 1) := by decide +kernel
theorem dX5_logged_45 : decode cX5_logged 45 = .ok (.iaload, 1) := by decide +kernel
theorem dX5_logged_46 : decode cX5_logged 46 = .ok (.goto 8, 3) := by decide +kernel
theorem dX5_logged_49 : decode cX5_logged 49 = .ok (.aload_n 0, 1) := by decide +kernel
theorem dX5_logged_50 : decode cX5_logged 50 = .ok (.iconst 1, 1) := by decide +kernel
theorem dX5_logged_51 : decode cX5_logged 51 = .ok (.invokevirtual 59, 3) := by decide +kernel
theorem dX5_logged_54 : decode cX5_logged 54 = .ok (.ireturn, 1) := by decide +kernel
theorem dX5_placeOf_0 : decode cX5_placeOf 0 = .ok (.iconst 0, 1) := by decide +kernel
theorem dX5_placeOf_1 : decode cX5_placeOf 1 = .ok (.istore_n 3, 1) := by decide +kernel
theorem dX5_placeOf_2 : decode cX5_placeOf 2 = .ok (.iload_n 3, 1) := by decide +kernel
theorem dX5_placeOf_3 : decode cX5_placeOf 3 = .ok (.aload_n 0, 1) := by decide +kernel
theorem dX5_placeOf_4 : decode cX5_placeOf 4 = .ok (.getfield 9, 3) := by decide +kernel
theorem dX5_placeOf_7 : decode cX5_placeOf 7 = .ok (.sipush 1550, 3) := by decide +kernel
theorem dX5_placeOf_10 : decode cX5_placeOf 10 = .ok (.iload_n 1, 1) := by decide +kernel
theorem dX5_placeOf_11 : decode cX5_placeOf 11 = .ok (.iadd, 1) := by decide +kernel
theorem dX5_placeOf_12 : decode cX5_placeOf 12 = .ok (.iaload, 1) := by decide +kernel
theorem dX5_placeOf_13 : decode cX5_placeOf 13 = .ok (.if_icmp .ge 31, 3) := by decide +kernel
theorem dX5_placeOf_16 : decode cX5_placeOf 16 = .ok (.aload_n 0, 1) := by decide +kernel
theorem dX5_placeOf_17 : decode cX5_placeOf 17 = .ok (.getfield 9, 3) := by decide +kernel
theorem dX5_placeOf_20 : decode cX5_placeOf 20 = .ok (.sipush 1560, 3) := by decide +kernel
theorem dX5_placeOf_23 : decode cX5_placeOf 23 = .ok (.sipush 150, 3) := by decide +kernel
theorem dX5_placeOf_26 : decode cX5_placeOf 26 = .ok (.iload_n 1, 1) := by decide +kernel
theorem dX5_placeOf_27 : decode cX5_placeOf 27 = .ok (.imul, 1) := by decide +kernel
theorem dX5_placeOf_28 : decode cX5_placeOf 28 = .ok (.iadd, 1) := by decide +kernel
theorem dX5_placeOf_29 : decode cX5_placeOf 29 = .ok (.iload_n 3, 1) := by decide +kernel
theorem dX5_placeOf_30 : decode cX5_placeOf 30 = .ok (.iadd, 1) := by decide +kernel
theorem dX5_placeOf_31 : decode cX5_placeOf 31 = .ok (.iaload, 1) := by decide +kernel
theorem dX5_placeOf_32 : decode cX5_placeOf 32 = .ok (.iload_n 2, 1) := by decide +kernel
theorem dX5_placeOf_33 : decode cX5_placeOf 33 = .ok (.if_icmp .ne 5, 3) := by decide +kernel
theorem dX5_placeOf_36 : decode cX5_placeOf 36 = .ok (.iload_n 3, 1) := by decide +kernel
theorem dX5_placeOf_37 : decode cX5_placeOf 37 = .ok (.ireturn, 1) := by decide +kernel
theorem dX5_placeOf_38 : decode cX5_placeOf 38 = .ok (.iinc 3 1, 3) := by decide +kernel
theorem dX5_placeOf_41 : decode cX5_placeOf 41 = .ok (.goto (-39), 3) := by decide +kernel
theorem dX5_placeOf_44 : decode cX5_placeOf 44 = .ok (.iconst (-1), 1) := by decide +kernel
theorem dX5_placeOf_45 : decode cX5_placeOf 45 = .ok (.ireturn, 1) := by decide +kernel
theorem dX5_position_0 : decode cX5_position 0 = .ok (.aload_n 0, 1) := by decide +kernel
theorem dX5_position_1 : decode cX5_position 1 = .ok (.iconst 0, 1) := by decide +kernel
theorem dX5_position_2 : decode cX5_position 2 = .ok (.putfield 38, 3) := by decide +kernel
theorem dX5_position_5 : decode cX5_position 5 = .ok (.iload_n 1, 1) := by decide +kernel
theorem dX5_position_6 : decode cX5_position 6 = .ok (.invokestatic 49, 3) := by decide +kernel
theorem dX5_position_9 : decode cX5_position 9 = .ok (.ifCond .eq 11, 3) := by decide +kernel
theorem dX5_position_12 : decode cX5_position 12 = .ok (.aload_n 0, 1) := by decide +kernel
theorem dX5_position_13 : decode cX5_position 13 = .ok (.iload_n 2, 1) := by decide +kernel
theorem dX5_position_14 : decode cX5_position 14 = .ok (.invokevirtual 56, 3) := by decide +kernel
theorem dX5_position_17 : decode cX5_position 17 = .ok (.ifCond .ne 9, 3) := by decide +kernel
theorem dX5_position_20 : decode cX5_position 20 = .ok (.aload_n 0, 1) := by decide +kernel
theorem dX5_position_21 : decode cX5_position 21 = .ok (.iconst 1, 1) := by decide +kernel
theorem dX5_position_22 : decode cX5_position 22 = .ok (.invokevirtual 59, 3) := by decide +kernel
theorem dX5_position_25 : decode cX5_position 25 = .ok (.ireturn, 1) := by decide +kernel
theorem dX5_position_26 : decode cX5_position 26 = .ok (.aload_n 0, 1) := by decide +kernel
theorem dX5_position_27 : decode cX5_position 27 = .ok (.iload_n 1, 1) := by decide +kernel
theorem dX5_position_28 : decode cX5_position 28 = .ok (.iload_n 2, 1) := by decide +kernel
theorem dX5_position_29 : decode cX5_position 29 = .ok (.invokevirtual 114, 3) := by decide +kernel
theorem dX5_position_32 : decode cX5_position 32 = .ok (.istore_n 3, 1) := by decide +kernel
theorem dX5_position_33 : decode cX5_position 33 = .ok (.iload_n 3, 1) := by decide +kernel
theorem dX5_position_34 : decode cX5_position 34 = .ok (.ifCond .ge 11, 3) := by decide +kernel
theorem dX5_position_37 : decode cX5_position 37 = .ok (.aload_n 0, 1) := by decide +kernel
theorem dX5_position_38 : decode cX5_position 38 = .ok (.iconst 2, 1) := by decide +kernel
theorem dX5_position_39 : decode cX5_position 39 = .ok (.invokevirtual 59, 3) := by decide +kernel
theorem dX5_position_42 : decode cX5_position 42 = .ok (.goto 4, 3) := by decide +kernel
theorem dX5_position_45 : decode cX5_position 45 = .ok (.iload_n 3, 1) := by decide +kernel
theorem dX5_position_46 : decode cX5_position 46 = .ok (.ireturn, 1) := by decide +kernel
theorem dX5_state_0 : decode cX5_state 0 = .ok (.aload_n 0, 1) := by decide +kernel
theorem dX5_state_1 : decode cX5_state 1 = .ok (.iload_n 1, 1) := by decide +kernel
theorem dX5_state_2 : decode cX5_state 2 = .ok (.invokevirtual 63, 3) := by decide +kernel
theorem dX5_state_5 : decode cX5_state 5 = .ok (.ifCond .eq 16, 3) := by decide +kernel
theorem dX5_state_8 : decode cX5_state 8 = .ok (.aload_n 0, 1) := by decide +kernel
theorem dX5_state_9 : decode cX5_state 9 = .ok (.getfield 9, 3) := by decide +kernel
theorem dX5_state_12 : decode cX5_state 12 = .ok (.sipush 4260, 3) := by decide +kernel
theorem dX5_state_15 : decode cX5_state 15 = .ok (.iload_n 1, 1) := by decide +kernel
theorem dX5_state_16 : decode cX5_state 16 = .ok (.iadd, 1) := by decide +kernel
theorem dX5_state_17 : decode cX5_state 17 = .ok (.iaload, 1) := by decide +kernel
theorem dX5_state_18 : decode cX5_state 18 = .ok (.goto 4, 3) := by decide +kernel
theorem dX5_state_21 : decode cX5_state 21 = .ok (.iconst 0, 1) := by decide +kernel
theorem dX5_state_22 : decode cX5_state 22 = .ok (.ireturn, 1) := by decide +kernel
theorem dX5_clock_0 : decode cX5_clock 0 = .ok (.aload_n 0, 1) := by decide +kernel
theorem dX5_clock_1 : decode cX5_clock 1 = .ok (.iconst 0, 1) := by decide +kernel
theorem dX5_clock_2 : decode cX5_clock 2 = .ok (.putfield 38, 3) := by decide +kernel
theorem dX5_clock_5 : decode cX5_clock 5 = .ok (.iload_n 1, 1) := by decide +kernel
theorem dX5_clock_6 : decode cX5_clock 6 = .ok (.invokestatic 49, 3) := by decide +kernel
theorem dX5_clock_9 : decode cX5_clock 9 = .ok (.ifCond .eq 10, 3) := by decide +kernel
theorem dX5_clock_12 : decode cX5_clock 12 = .ok (.iload_n 2, 1) := by decide +kernel
theorem dX5_clock_13 : decode cX5_clock 13 = .ok (.invokestatic 49, 3) := by decide +kernel
theorem dX5_clock_16 : decode cX5_clock 16 = .ok (.ifCond .ne 9, 3) := by decide +kernel
theorem dX5_clock_19 : decode cX5_clock 19 = .ok (.aload_n 0, 1) := by decide +kernel
theorem dX5_clock_20 : decode cX5_clock 20 = .ok (.iconst 1, 1) := by decide +kernel
theorem dX5_clock_21 : decode cX5_clock 21 = .ok (.invokevirtual 59, 3) := by decide +kernel
theorem dX5_clock_24 : decode cX5_clock 24 = .ok (.ireturn, 1) := by decide +kernel
theorem dX5_clock_25 : decode cX5_clock 25 = .ok (.aload_n 0, 1) := by decide +kernel
theorem dX5_clock_26 : decode cX5_clock 26 = .ok (.iload_n 1, 1) := by decide +kernel
theorem dX5_clock_27 : decode cX5_clock 27 = .ok (.invokevirtual 53, 3) := by decide +kernel
theorem dX5_clock_30 : decode cX5_clock 30 = .ok (.ifCond .eq 12, 3) := by decide +kernel
theorem dX5_clock_33 : decode cX5_clock 33 = .ok (.aload_n 0, 1) := by decide +kernel
theorem dX5_clock_34 : decode cX5_clock 34 = .ok (.iload_n 1, 1) := by decide +kernel
theorem dX5_clock_35 : decode cX5_clock 35 = .ok (.iload_n 2, 1) := by decide +kernel
theorem dX5_clock_36 : decode cX5_clock 36 = .ok (.invokevirtual 76, 3) := by decide +kernel
theorem dX5_clock_39 : decode cX5_clock 39 = .ok (.goto 8, 3) := by decide +kernel
theorem dX5_clock_42 : decode cX5_clock 42 = .ok (.aload_n 0, 1) := by decide +kernel
theorem dX5_clock_43 : decode cX5_clock 43 = .ok (.iconst 2, 1) := by decide +kernel
theorem dX5_clock_44 : decode cX5_clock 44 = .ok (.invokevirtual 59, 3) := by decide +kernel
theorem dX5_clock_47 : decode cX5_clock 47 = .ok (.ireturn, 1) := by decide +kernel
theorem dX5_buffered_0 : decode cX5_buffered 0 = .ok (.aload_n 0, 1) := by decide +kernel
theorem dX5_buffered_1 : decode cX5_buffered 1 = .ok (.iload_n 1, 1) := by decide +kernel
theorem dX5_buffered_2 : decode cX5_buffered 2 = .ok (.invokevirtual 96, 3) := by decide +kernel
theorem dX5_buffered_5 : decode cX5_buffered 5 = .ok (.ifCond .ne 5, 3) := by decide +kernel
theorem dX5_buffered_8 : decode cX5_buffered 8 = .ok (.iconst 0, 1) := by decide +kernel
theorem dX5_buffered_9 : decode cX5_buffered 9 = .ok (.ireturn, 1) := by decide +kernel
theorem dX5_buffered_10 : decode cX5_buffered 10 = .ok (.iconst 0, 1) := by decide +kernel
theorem dX5_buffered_11 : decode cX5_buffered 11 = .ok (.istore_n 2, 1) := by decide +kernel
theorem dX5_buffered_12 : decode cX5_buffered 12 = .ok (.iconst 0, 1) := by decide +kernel
theorem dX5_buffered_13 : decode cX5_buffered 13 = .ok (.istore_n 3, 1) := by decide +kernel
theorem dX5_buffered_14 : decode cX5_buffered 14 = .ok (.iload_n 3, 1) := by decide +kernel
theorem dX5_buffered_15 : decode cX5_buffered 15 = .ok (.aload_n 0, 1) := by decide +kernel
theorem dX5_buffered_16 : decode cX5_buffered 16 = .ok (.getfield 9, 3) := by decide +kernel
theorem dX5_buffered_19 : decode cX5_buffered 19 = .ok (.bipush 44, 2) := by decide +kernel
theorem dX5_buffered_21 : decode cX5_buffered 21 = .ok (.iaload, 1) := by decide +kernel
theorem dX5_buffered_22 : decode cX5_buffered 22 = .ok (.if_icmp .ge 26, 3) := by decide +kernel
theorem dX5_buffered_25 : decode cX5_buffered 25 = .ok (.iload_n 2, 1) := by decide +kernel
theorem dX5_buffered_26 : decode cX5_buffered 26 = .ok (.aload_n 0, 1) := by decide +kernel
theorem dX5_buffered_27 : decode cX5_buffered 27 = .ok (.iload_n 1, 1) := by decide +kernel
theorem dX5_buffered_28 : decode cX5_buffered 28 = .ok (.iload_n 3, 1) := by decide +kernel
theorem dX5_buffered_29 : decode cX5_buffered 29 = .ok (.invokevirtual 99, 3) := by decide +kernel
theorem dX5_buffered_32 : decode cX5_buffered 32 = .ok (.ifCond .eq 7, 3) := by decide +kernel
theorem dX5_buffered_35 : decode cX5_buffered 35 = .ok (.iconst 1, 1) := by decide +kernel
theorem dX5_buffered_36 : decode cX5_buffered 36 = .ok (.goto 4, 3) := by decide +kernel
theorem dX5_buffered_39 : decode cX5_buffered 39 = .ok (.iconst 0, 1) := by decide +kernel
theorem dX5_buffered_40 : decode cX5_buffered 40 = .ok (.iadd, 1) := by decide +kernel
theorem dX5_buffered_41 : decode cX5_buffered 41 = .ok (.istore_n 2, 1) := by decide +kernel
theorem dX5_buffered_42 : decode cX5_buffered 42 = .ok (.iinc 3 1, 3) := by decide +kernel
theorem dX5_buffered_45 : decode cX5_buffered 45 = .ok (.goto (-31), 3) := by decide +kernel
theorem dX5_buffered_48 : decode cX5_buffered 48 = .ok (.iload_n 2, 1) := by decide +kernel
theorem dX5_buffered_49 : decode cX5_buffered 49 = .ok (.ireturn, 1) := by decide +kernel
theorem dX5_bufferedMessage_0 : decode cX5_bufferedMessage 0 = .ok (.aload_n 0, 1) := by decide +kernel
theorem dX5_bufferedMessage_1 : decode cX5_bufferedMessage 1 = .ok (.iload_n 1, 1) := by decide +kernel
theorem dX5_bufferedMessage_2 : decode cX5_bufferedMessage 2 = .ok (.invokevirtual 96, 3) := by decide +kernel
theorem dX5_bufferedMessage_5 : decode cX5_bufferedMessage 5 = .ok (.ifCond .ne 5, 3) := by decide +kernel
theorem dX5_bufferedMessage_8 : decode cX5_bufferedMessage 8 = .ok (.iconst 0, 1) := by decide +kernel
theorem dX5_bufferedMessage_9 : decode cX5_bufferedMessage 9 = .ok (.ireturn, 1) := by decide +kernel
theorem dX5_bufferedMessage_10 : decode cX5_bufferedMessage 10 = .ok (.iconst 0, 1) := by decide +kernel
theorem dX5_bufferedMessage_11 : decode cX5_bufferedMessage 11 = .ok (.istore_n 3, 1) := by decide +kernel
theorem dX5_bufferedMessage_12 : decode cX5_bufferedMessage 12 = .ok (.iconst 0, 1) := by decide +kernel
theorem dX5_bufferedMessage_13 : decode cX5_bufferedMessage 13 = .ok (.istore 4, 2) := by decide +kernel
theorem dX5_bufferedMessage_15 : decode cX5_bufferedMessage 15 = .ok (.iload 4, 2) := by decide +kernel
theorem dX5_bufferedMessage_17 : decode cX5_bufferedMessage 17 = .ok (.aload_n 0, 1) := by decide +kernel
theorem dX5_bufferedMessage_18 : decode cX5_bufferedMessage 18 = .ok (.getfield 9, 3) := by decide +kernel
theorem dX5_bufferedMessage_21 : decode cX5_bufferedMessage 21 = .ok (.bipush 44, 2) := by decide +kernel
theorem dX5_bufferedMessage_23 : decode cX5_bufferedMessage 23 = .ok (.iaload, 1) := by decide +kernel
theorem dX5_bufferedMessage_24 : decode cX5_bufferedMessage 24 = .ok (.if_icmp .ge 33, 3) := by decide +kernel
theorem dX5_bufferedMessage_27 : decode cX5_bufferedMessage 27 = .ok (.aload_n 0, 1) := by decide +kernel
theorem dX5_bufferedMessage_28 : decode cX5_bufferedMessage 28 = .ok (.iload_n 1, 1) := by decide +kernel
theorem dX5_bufferedMessage_29 : decode cX5_bufferedMessage 29 = .ok (.iload 4, 2) := by decide +kernel
theorem dX5_bufferedMessage_31 : decode cX5_bufferedMessage 31 = .ok (.invokevirtual 99, 3) := by decide +kernel
theorem dX5_bufferedMessage_34 : decode cX5_bufferedMessage 34 = .ok (.ifCond .ne 6, 3) := by decide +kernel
theorem dX5_bufferedMessage_37 : decode cX5_bufferedMessage 37 = .ok (.goto 14, 3) := by decide +kernel
theorem dX5_bufferedMessage_40 : decode cX5_bufferedMessage 40 = .ok (.iload_n 3, 1) := by decide +kernel
theorem dX5_bufferedMessage_41 : decode cX5_bufferedMessage 41 = .ok (.iload_n 2, 1) := by decide +kernel
theorem dX5_bufferedMessage_42 : decode cX5_bufferedMessage 42 = .ok (.if_icmp .ne 6, 3) := by decide +kernel
theorem dX5_bufferedMessage_45 : decode cX5_bufferedMessage 45 = .ok (.iload 4, 2) := by decide +kernel
theorem dX5_bufferedMessage_47 : decode cX5_bufferedMessage 47 = .ok (.ireturn, 1) := by decide +kernel
theorem dX5_bufferedMessage_48 : decode cX5_bufferedMessage 48 = .ok (.iinc 3 1, 3) := by decide +kernel
theorem dX5_bufferedMessage_51 : decode cX5_bufferedMessage 51 = .ok (.iinc 4 1, 3) := by decide +kernel
theorem dX5_bufferedMessage_54 : decode cX5_bufferedMessage 54 = .ok (.goto (-39), 3) := by decide +kernel
theorem dX5_bufferedMessage_57 : decode cX5_bufferedMessage 57 = .ok (.aload_n 0, 1) := by decide +kernel
theorem dX5_bufferedMessage_58 : decode cX5_bufferedMessage 58 = .ok (.iconst 3, 1) := by decide +kernel
theorem dX5_bufferedMessage_59 : decode cX5_bufferedMessage 59 = .ok (.invokevirtual 59, 3) := by decide +kernel
theorem dX5_bufferedMessage_62 : decode cX5_bufferedMessage 62 = .ok (.ireturn, 1) := by decide +kernel
theorem dX5_missing_0 : decode cX5_missing 0 = .ok (.aload_n 0, 1) := by decide +kernel
theorem dX5_missing_1 : decode cX5_missing 1 = .ok (.iconst 0, 1) := by decide +kernel
theorem dX5_missing_2 : decode cX5_missing 2 = .ok (.putfield 38, 3) := by decide +kernel
theorem dX5_missing_5 : decode cX5_missing 5 = .ok (.iload_n 1, 1) := by decide +kernel
theorem dX5_missing_6 : decode cX5_missing 6 = .ok (.invokestatic 49, 3) := by decide +kernel
theorem dX5_missing_9 : decode cX5_missing 9 = .ok (.ifCond .eq 11, 3) := by decide +kernel
theorem dX5_missing_12 : decode cX5_missing 12 = .ok (.aload_n 0, 1) := by decide +kernel
theorem dX5_missing_13 : decode cX5_missing 13 = .ok (.iload_n 2, 1) := by decide +kernel
theorem dX5_missing_14 : decode cX5_missing 14 = .ok (.invokevirtual 56, 3) := by decide +kernel
theorem dX5_missing_17 : decode cX5_missing 17 = .ok (.ifCond .ne 9, 3) := by decide +kernel
theorem dX5_missing_20 : decode cX5_missing 20 = .ok (.aload_n 0, 1) := by decide +kernel
theorem dX5_missing_21 : decode cX5_missing 21 = .ok (.iconst 1, 1) := by decide +kernel
theorem dX5_missing_22 : decode cX5_missing 22 = .ok (.invokevirtual 59, 3) := by decide +kernel
theorem dX5_missing_25 : decode cX5_missing 25 = .ok (.ireturn, 1) := by decide +kernel
theorem dX5_missing_26 : decode cX5_missing 26 = .ok (.aload_n 0, 1) := by decide +kernel
theorem dX5_missing_27 : decode cX5_missing 27 = .ok (.iload_n 1, 1) := by decide +kernel
theorem dX5_missing_28 : decode cX5_missing 28 = .ok (.invokevirtual 53, 3) := by decide +kernel
theorem dX5_missing_31 : decode cX5_missing 31 = .ok (.ifCond .eq 11, 3) := by decide +kernel
theorem dX5_missing_34 : decode cX5_missing 34 = .ok (.aload_n 0, 1) := by decide +kernel
theorem dX5_missing_35 : decode cX5_missing 35 = .ok (.iload_n 2, 1) := by decide +kernel
theorem dX5_missing_36 : decode cX5_missing 36 = .ok (.invokevirtual 69, 3) := by decide +kernel
theorem dX5_missing_39 : decode cX5_missing 39 = .ok (.ifCond .ne 9, 3) := by decide +kernel
theorem dX5_missing_42 : decode cX5_missing 42 = .ok (.aload_n 0, 1) := by decide +kernel
theorem dX5_missing_43 : decode cX5_missing 43 = .ok (.iconst 2, 1) := by decide +kernel
theorem dX5_missing_44 : decode cX5_missing 44 = .ok (.invokevirtual 59, 3) := by decide +kernel
theorem dX5_missing_47 : decode cX5_missing 47 = .ok (.ireturn, 1) := by decide +kernel
theorem dX5_missing_48 : decode cX5_missing 48 = .ok (.iconst 0, 1) := by decide +kernel
theorem dX5_missing_49 : decode cX5_missing 49 = .ok (.istore_n 3, 1) := by decide +kernel
theorem dX5_missing_50 : decode cX5_missing 50 = .ok (.iconst 0, 1) := by decide +kernel
theorem dX5_missing_51 : decode cX5_missing 51 = .ok (.istore 4, 2) := by decide +kernel
theorem dX5_missing_53 : decode cX5_missing 53 = .ok (.iload 4, 2) := by decide +kernel
theorem dX5_missing_55 : decode cX5_missing 55 = .ok (.aload_n 0, 1) := by decide +kernel
theorem dX5_missing_56 : decode cX5_missing 56 = .ok (.getfield 9, 3) := by decide +kernel
theorem dX5_missing_59 : decode cX5_missing 59 = .ok (.bipush 44, 2) := by decide +kernel
theorem dX5_missing_61 : decode cX5_missing 61 = .ok (.iaload, 1) := by decide +kernel
theorem dX5_missing_62 : decode cX5_missing 62 = .ok (.if_icmp .ge 37, 3) := by decide +kernel
theorem dX5_missing_65 : decode cX5_missing 65 = .ok (.iload_n 3, 1) := by decide +kernel
theorem dX5_missing_66 : decode cX5_missing 66 = .ok (.aload_n 0, 1) := by decide +kernel
theorem dX5_missing_67 : decode cX5_missing 67 = .ok (.iload 4, 2) := by decide +kernel
theorem dX5_missing_69 : decode cX5_missing 69 = .ok (.iload_n 2, 1) := by decide +kernel
theorem dX5_missing_70 : decode cX5_missing 70 = .ok (.invokevirtual 111, 3) := by decide +kernel
theorem dX5_missing_73 : decode cX5_missing 73 = .ok (.ifCond .eq 17, 3) := by decide +kernel
theorem dX5_missing_76 : decode cX5_missing 76 = .ok (.aload_n 0, 1) := by decide +kernel
theorem dX5_missing_77 : decode cX5_missing 77 = .ok (.iload_n 1, 1) := by decide +kernel
theorem dX5_missing_78 : decode cX5_missing 78 = .ok (.iload 4, 2) := by decide +kernel
theorem dX5_missing_80 : decode cX5_missing 80 = .ok (.invokevirtual 72, 3) := by decide +kernel
theorem dX5_missing_83 : decode cX5_missing 83 = .ok (.ifCond .ne 7, 3) := by decide +kernel
theorem dX5_missing_86 : decode cX5_missing 86 = .ok (.iconst 1, 1) := by decide +kernel
theorem dX5_missing_87 : decode cX5_missing 87 = .ok (.goto 4, 3) := by decide +kernel
theorem dX5_missing_90 : decode cX5_missing 90 = .ok (.iconst 0, 1) := by decide +kernel
theorem dX5_missing_91 : decode cX5_missing 91 = .ok (.iadd, 1) := by decide +kernel
theorem dX5_missing_92 : decode cX5_missing 92 = .ok (.istore_n 3, 1) := by decide +kernel
theorem dX5_missing_93 : decode cX5_missing 93 = .ok (.iinc 4 1, 3) := by decide +kernel
theorem dX5_missing_96 : decode cX5_missing 96 = .ok (.goto (-43), 3) := by decide +kernel
theorem dX5_missing_99 : decode cX5_missing 99 = .ok (.iload_n 3, 1) := by decide +kernel
theorem dX5_missing_100 : decode cX5_missing 100 = .ok (.ireturn, 1) := by decide +kernel
theorem dX5_inTransit_0 : decode cX5_inTransit 0 = .ok (.aload_n 0, 1) := by decide +kernel
theorem dX5_inTransit_1 : decode cX5_inTransit 1 = .ok (.iload_n 1, 1) := by decide +kernel
theorem dX5_inTransit_2 : decode cX5_inTransit 2 = .ok (.invokevirtual 96, 3) := by decide +kernel
theorem dX5_inTransit_5 : decode cX5_inTransit 5 = .ok (.ifCond .ne 5, 3) := by decide +kernel
theorem dX5_inTransit_8 : decode cX5_inTransit 8 = .ok (.iconst 0, 1) := by decide +kernel
theorem dX5_inTransit_9 : decode cX5_inTransit 9 = .ok (.ireturn, 1) := by decide +kernel
theorem dX5_inTransit_10 : decode cX5_inTransit 10 = .ok (.iconst 0, 1) := by decide +kernel
theorem dX5_inTransit_11 : decode cX5_inTransit 11 = .ok (.istore_n 2, 1) := by decide +kernel
theorem dX5_inTransit_12 : decode cX5_inTransit 12 = .ok (.iconst 0, 1) := by decide +kernel
theorem dX5_inTransit_13 : decode cX5_inTransit 13 = .ok (.istore_n 3, 1) := by decide +kernel
theorem dX5_inTransit_14 : decode cX5_inTransit 14 = .ok (.iload_n 3, 1) := by decide +kernel
theorem dX5_inTransit_15 : decode cX5_inTransit 15 = .ok (.aload_n 0, 1) := by decide +kernel
theorem dX5_inTransit_16 : decode cX5_inTransit 16 = .ok (.getfield 9, 3) := by decide +kernel
theorem dX5_inTransit_19 : decode cX5_inTransit 19 = .ok (.bipush 44, 2) := by decide +kernel
theorem dX5_inTransit_21 : decode cX5_inTransit 21 = .ok (.iaload, 1) := by decide +kernel
theorem dX5_inTransit_22 : decode cX5_inTransit 22 = .ok (.if_icmp .ge 26, 3) := by decide +kernel
theorem dX5_inTransit_25 : decode cX5_inTransit 25 = .ok (.iload_n 2, 1) := by decide +kernel
theorem dX5_inTransit_26 : decode cX5_inTransit 26 = .ok (.aload_n 0, 1) := by decide +kernel
theorem dX5_inTransit_27 : decode cX5_inTransit 27 = .ok (.iload_n 1, 1) := by decide +kernel
theorem dX5_inTransit_28 : decode cX5_inTransit 28 = .ok (.iload_n 3, 1) := by decide +kernel
theorem dX5_inTransit_29 : decode cX5_inTransit 29 = .ok (.invokevirtual 102, 3) := by decide +kernel
theorem dX5_inTransit_32 : decode cX5_inTransit 32 = .ok (.ifCond .eq 7, 3) := by decide +kernel
theorem dX5_inTransit_35 : decode cX5_inTransit 35 = .ok (.iconst 1, 1) := by decide +kernel
theorem dX5_inTransit_36 : decode cX5_inTransit 36 = .ok (.goto 4, 3) := by decide +kernel
theorem dX5_inTransit_39 : decode cX5_inTransit 39 = .ok (.iconst 0, 1) := by decide +kernel
theorem dX5_inTransit_40 : decode cX5_inTransit 40 = .ok (.iadd, 1) := by decide +kernel
theorem dX5_inTransit_41 : decode cX5_inTransit 41 = .ok (.istore_n 2, 1) := by decide +kernel
theorem dX5_inTransit_42 : decode cX5_inTransit 42 = .ok (.iinc 3 1, 3) := by decide +kernel
theorem dX5_inTransit_45 : decode cX5_inTransit 45 = .ok (.goto (-31), 3) := by decide +kernel
theorem dX5_inTransit_48 : decode cX5_inTransit 48 = .ok (.iload_n 2, 1) := by decide +kernel
theorem dX5_inTransit_49 : decode cX5_inTransit 49 = .ok (.ireturn, 1) := by decide +kernel
theorem dX5_disagreements_0 : decode cX5_disagreements 0 = .ok (.aload_n 0, 1) := by decide +kernel
theorem dX5_disagreements_1 : decode cX5_disagreements 1 = .ok (.iconst 0, 1) := by decide +kernel
theorem dX5_disagreements_2 : decode cX5_disagreements 2 = .ok (.putfield 38, 3) := by decide +kernel
theorem dX5_disagreements_5 : decode cX5_disagreements 5 = .ok (.iload_n 1, 1) := by decide +kernel
theorem dX5_disagreements_6 : decode cX5_disagreements 6 = .ok (.invokestatic 49, 3) := by decide +kernel
theorem dX5_disagreements_9 : decode cX5_disagreements 9 = .ok (.ifCond .eq 10, 3) := by decide +kernel
theorem dX5_disagreements_12 : decode cX5_disagreements 12 = .ok (.iload_n 2, 1) := by decide +kernel
theorem dX5_disagreements_13 : decode cX5_disagreements 13 = .ok (.invokestatic 49, 3) := by decide +kernel
theorem dX5_disagreements_16 : decode cX5_disagreements 16 = .ok (.ifCond .ne 9, 3) := by decide +kernel
theorem dX5_disagreements_19 : decode cX5_disagreements 19 = .ok (.aload_n 0, 1) := by decide +kernel
theorem dX5_disagreements_20 : decode cX5_disagreements 20 = .ok (.iconst 1, 1) := by decide +kernel
theorem dX5_disagreements_21 : decode cX5_disagreements 21 = .ok (.invokevirtual 59, 3) := by decide +kernel
theorem dX5_disagreements_24 : decode cX5_disagreements 24 = .ok (.ireturn, 1) := by decide +kernel
theorem dX5_disagreements_25 : decode cX5_disagreements 25 = .ok (.iconst 0, 1) := by decide +kernel
theorem dX5_disagreements_26 : decode cX5_disagreements 26 = .ok (.istore_n 3, 1) := by decide +kernel
theorem dX5_disagreements_27 : decode cX5_disagreements 27 = .ok (.iconst 0, 1) := by decide +kernel
theorem dX5_disagreements_28 : decode cX5_disagreements 28 = .ok (.istore 4, 2) := by decide +kernel
theorem dX5_disagreements_30 : decode cX5_disagreements 30 = .ok (.iload 4, 2) := by decide +kernel
theorem dX5_disagreements_32 : decode cX5_disagreements 32 = .ok (.aload_n 0, 1) := by decide +kernel
theorem dX5_disagreements_33 : decode cX5_disagreements 33 = .ok (.getfield 9, 3) := by decide +kernel
theorem dX5_disagreements_36 : decode cX5_disagreements 36 = .ok (.sipush 1550, 3) := by decide +kernel
theorem dX5_disagreements_39 : decode cX5_disagreements 39 = .ok (.iload_n 1, 1) := by decide +kernel
theorem dX5_disagreements_40 : decode cX5_disagreements 40 = .ok (.iadd, 1) := by decide +kernel
theorem dX5_disagreements_41 : decode cX5_disagreements 41 = .ok (.iaload, 1) := by decide +kernel
theorem dX5_disagreements_42 : decode cX5_disagreements 42 = .ok (.if_icmp .ge 89, 3) := by decide +kernel
theorem dX5_disagreements_45 : decode cX5_disagreements 45 = .ok (.aload_n 0, 1) := by decide +kernel
theorem dX5_disagreements_46 : decode cX5_disagreements 46 = .ok (.iload_n 2, 1) := by decide +kernel
theorem dX5_disagreements_47 : decode cX5_disagreements 47 = .ok (.aload_n 0, 1) := by decide +kernel
theorem dX5_disagreements_48 : decode cX5_disagreements 48 = .ok (.getfield 9, 3) := by decide +kernel
theorem dX5_disagreements_51 : decode cX5_disagreements 51 = .ok (.sipush 1560, 3) := by decide +kernel
theorem dX5_disagreements_54 : decode cX5_disagreements 54 = .ok (.sipush 150, 3) := by decide +kernel
theorem dX5_disagreements_57 : decode cX5_disagreements 57 = .ok (.iload_n 1, 1) := by decide +kernel
theorem dX5_disagreements_58 : decode cX5_disagreements 58 = .ok (.imul, 1) := by decide +kernel
theorem dX5_disagreements_59 : decode cX5_disagreements 59 = .ok (.iadd, 1) := by decide +kernel
theorem dX5_disagreements_60 : decode cX5_disagreements 60 = .ok (.iload 4, 2) := by decide +kernel
theorem dX5_disagreements_62 : decode cX5_disagreements 62 = .ok (.iadd, 1) := by decide +kernel
theorem dX5_disagreements_63 : decode cX5_disagreements 63 = .ok (.iaload, 1) := by decide +kernel
theorem dX5_disagreements_64 : decode cX5_disagreements 64 = .ok (.invokevirtual 114, 3) := by decide +kernel
theorem dX5_disagreements_67 : decode cX5_disagreements 67 = .ok (.istore 5, 2) := by decide +kernel
theorem dX5_disagreements_69 : decode cX5_disagreements 69 = .ok (.iconst 0, 1) := by decide +kernel
theorem dX5_disagreements_70 : decode cX5_disagreements 70 = .ok (.istore 6, 2) := by decide +kernel
theorem dX5_disagreements_72 : decode cX5_disagreements 72 = .ok (.iload 6, 2) := by decide +kernel
theorem dX5_disagreements_74 : decode cX5_disagreements 74 = .ok (.iload 4, 2) := by decide +kernel
theorem dX5_disagreements_76 : decode cX5_disagreements 76 = .ok (.if_icmp .ge 49, 3) := by decide +kernel
theorem dX5_disagreements_79 : decode cX5_disagreements 79 = .ok (.iload 5, 2) := by decide +kernel
theorem dX5_disagreements_81 : decode cX5_disagreements 81 = .ok (.ifCond .lt 44, 3) := by decide +kernel
theorem dX5_disagreements_84 : decode cX5_disagreements 84 = .ok (.iload_n 3, 1) := by decide +kernel
theorem dX5_disagreements_85 : decode cX5_disagreements 85 = .ok (.aload_n 0, 1) := by decide +kernel
theorem dX5_disagreements_86 : decode cX5_disagreements 86 = .ok (.iload_n 2, 1) := by decide +kernel
theorem dX5_disagreements_87 : decode cX5_disagreements 87 = .ok (.aload_n 0, 1) := by decide +kernel
theorem dX5_disagreements_88 : decode cX5_disagreements 88 = .ok (.getfield 9, 3) := by decide +kernel
theorem dX5_disagreements_91 : decode cX5_disagreements 91 = .ok (.sipush 1560, 3) := by decide +kernel
theorem dX5_disagreements_94 : decode cX5_disagreements 94 = .ok (.sipush 150, 3) := by decide +kernel
theorem dX5_disagreements_97 : decode cX5_disagreements 97 = .ok (.iload_n 1, 1) := by decide +kernel
theorem dX5_disagreements_98 : decode cX5_disagreements 98 = .ok (.imul, 1) := by decide +kernel
theorem dX5_disagreements_99 : decode cX5_disagreements 99 = .ok (.iadd, 1) := by decide +kernel
theorem dX5_disagreements_100 : decode cX5_disagreements 100 = .ok (.iload 6, 2) := by decide +kernel
theorem dX5_disagreements_102 : decode cX5_disagreements 102 = .ok (.iadd, 1) := by decide +kernel
theorem dX5_disagreements_103 : decode cX5_disagreements 103 = .ok (.iaload, 1) := by decide +kernel
theorem dX5_disagreements_104 : decode cX5_disagreements 104 = .ok (.invokevirtual 114, 3) := by decide +kernel
theorem dX5_disagreements_107 : decode cX5_disagreements 107 = .ok (.iload 5, 2) := by decide +kernel
theorem dX5_disagreements_109 : decode cX5_disagreements 109 = .ok (.if_icmp .le 7, 3) := by decide +kernel
theorem dX5_disagreements_112 : decode cX5_disagreements 112 = .ok (.iconst 1, 1) := by decide +kernel
theorem dX5_disagreements_113 : decode cX5_disagreements 113 = .ok (.goto 4, 3) := by decide +kernel
theorem dX5_disagreements_116 : decode cX5_disagreements 116 = .ok (.iconst 0, 1) := by decide +kernel
theorem dX5_disagreements_117 : decode cX5_disagreements 117 = .ok (.iadd, 1) := by decide +kernel
theorem dX5_disagreements_118 : decode cX5_disagreements 118 = .ok (.istore_n 3, 1) := by decide +kernel
theorem dX5_disagreements_119 : decode cX5_disagreements 119 = .ok (.iinc 6 1, 3) := by decide +kernel
theorem dX5_disagreements_122 : decode cX5_disagreements 122 = .ok (.goto (-50), 3) := by decide +kernel
theorem dX5_disagreements_125 : decode cX5_disagreements 125 = .ok (.iinc 4 1, 3) := by decide +kernel
theorem dX5_disagreements_128 : decode cX5_disagreements 128 = .ok (.goto (-98), 3) := by decide +kernel
theorem dX5_disagreements_131 : decode cX5_disagreements 131 = .ok (.iload_n 3, 1) := by decide +kernel
theorem dX5_disagreements_132 : decode cX5_disagreements 132 = .ok (.ireturn, 1) := by decide +kernel
theorem dX5_overlap_0 : decode cX5_overlap 0 = .ok (.aload_n 0, 1) := by decide +kernel
theorem dX5_overlap_1 : decode cX5_overlap 1 = .ok (.iload_n 1, 1) := by decide +kernel
theorem dX5_overlap_2 : decode cX5_overlap 2 = .ok (.invokestatic 49, 3) := by decide +kernel
theorem dX5_overlap_5 : decode cX5_overlap 5 = .ok (.ifCond .eq 10, 3) := by decide +kernel
theorem dX5_overlap_8 : decode cX5_overlap 8 = .ok (.iload_n 2, 1) := by decide +kernel
theorem dX5_overlap_9 : decode cX5_overlap 9 = .ok (.invokestatic 49, 3) := by decide +kernel
theorem dX5_overlap_12 : decode cX5_overlap 12 = .ok (.ifCond .ne 7, 3) := by decide +kernel
theorem dX5_overlap_15 : decode cX5_overlap 15 = .ok (.iconst 1, 1) := by decide +kernel
theorem dX5_overlap_16 : decode cX5_overlap 16 = .ok (.goto 21, 3) := by decide +kernel
theorem dX5_overlap_19 : decode cX5_overlap 19 = .ok (.aload_n 0, 1) := by decide +kernel
theorem dX5_overlap_20 : decode cX5_overlap 20 = .ok (.getfield 9, 3) := by decide +kernel
theorem dX5_overlap_23 : decode cX5_overlap 23 = .ok (.sipush 1550, 3) := by decide +kernel
theorem dX5_overlap_26 : decode cX5_overlap 26 = .ok (.iload_n 1, 1) := by decide +kernel
theorem dX5_overlap_27 : decode cX5_overlap 27 = .ok (.iadd, 1) := by decide +kernel
theorem dX5_overlap_28 : decode cX5_overlap 28 = .ok (.iaload, 1) := by decide +kernel
theorem dX5_overlap_29 : decode cX5_overlap 29 = .ok (.ifCond .ne 7, 3) := by decide +kernel
theorem dX5_overlap_32 : decode cX5_overlap 32 = .ok (.iconst 2, 1) := by decide +kernel
theorem dX5_overlap_33 : decode cX5_overlap 33 = .ok (.goto 4, 3) := by decide +kernel
theorem dX5_overlap_36 : decode cX5_overlap 36 = .ok (.iconst 0, 1) := by decide +kernel
theorem dX5_overlap_37 : decode cX5_overlap 37 = .ok (.putfield 38, 3) := by decide +kernel
theorem dX5_overlap_40 : decode cX5_overlap 40 = .ok (.aload_n 0, 1) := by decide +kernel
theorem dX5_overlap_41 : decode cX5_overlap 41 = .ok (.getfield 38, 3) := by decide +kernel
theorem dX5_overlap_44 : decode cX5_overlap 44 = .ok (.ifCond .eq 5, 3) := by decide +kernel
theorem dX5_overlap_47 : decode cX5_overlap 47 = .ok (.dconst 0, 1) := by decide +kernel
theorem dX5_overlap_48 : decode cX5_overlap 48 = .ok (.dreturn, 1) := by decide +kernel
theorem dX5_overlap_49 : decode cX5_overlap 49 = .ok (.iconst 0, 1) := by decide +kernel
theorem dX5_overlap_50 : decode cX5_overlap 50 = .ok (.istore_n 3, 1) := by decide +kernel
theorem dX5_overlap_51 : decode cX5_overlap 51 = .ok (.iconst 0, 1) := by decide +kernel
theorem dX5_overlap_52 : decode cX5_overlap 52 = .ok (.istore 4, 2) := by decide +kernel
theorem dX5_overlap_54 : decode cX5_overlap 54 = .ok (.iload 4, 2) := by decide +kernel
theorem dX5_overlap_56 : decode cX5_overlap 56 = .ok (.aload_n 0, 1) := by decide +kernel
theorem dX5_overlap_57 : decode cX5_overlap 57 = .ok (.getfield 9, 3) := by decide +kernel
theorem dX5_overlap_60 : decode cX5_overlap 60 = .ok (.sipush 1550, 3) := by decide +kernel
theorem dX5_overlap_63 : decode cX5_overlap 63 = .ok (.iload_n 1, 1) := by decide +kernel
theorem dX5_overlap_64 : decode cX5_overlap 64 = .ok (.iadd, 1) := by decide +kernel
theorem dX5_overlap_65 : decode cX5_overlap 65 = .ok (.iaload, 1) := by decide +kernel
theorem dX5_overlap_66 : decode cX5_overlap 66 = .ok (.if_icmp .ge 42, 3) := by decide +kernel
theorem dX5_overlap_69 : decode cX5_overlap 69 = .ok (.iload_n 3, 1) := by decide +kernel
theorem dX5_overlap_70 : decode cX5_overlap 70 = .ok (.aload_n 0, 1) := by decide +kernel
theorem dX5_overlap_71 : decode cX5_overlap 71 = .ok (.iload_n 2, 1) := by decide +kernel
theorem dX5_overlap_72 : decode cX5_overlap 72 = .ok (.aload_n 0, 1) := by decide +kernel
theorem dX5_overlap_73 : decode cX5_overlap 73 = .ok (.getfield 9, 3) := by decide +kernel
theorem dX5_overlap_76 : decode cX5_overlap 76 = .ok (.sipush 1560, 3) := by decide +kernel
theorem dX5_overlap_79 : decode cX5_overlap 79 = .ok (.sipush 150, 3) := by decide +kernel
theorem dX5_overlap_82 : decode cX5_overlap 82 = .ok (.iload_n 1, 1) := by decide +kernel
theorem dX5_overlap_83 : decode cX5_overlap 83 = .ok (.imul, 1) := by decide +kernel
theorem dX5_overlap_84 : decode cX5_overlap 84 = .ok (.iadd, 1) := by decide +kernel
theorem dX5_overlap_85 : decode cX5_overlap 85 = .ok (.iload 4, 2) := by decide +kernel
theorem dX5_overlap_87 : decode cX5_overlap 87 = .ok (.iadd, 1) := by decide +kernel
theorem dX5_overlap_88 : decode cX5_overlap 88 = .ok (.iaload, 1) := by decide +kernel
theorem dX5_overlap_89 : decode cX5_overlap 89 = .ok (.invokevirtual 72, 3) := by decide +kernel
theorem dX5_overlap_92 : decode cX5_overlap 92 = .ok (.ifCond .eq 7, 3) := by decide +kernel
theorem dX5_overlap_95 : decode cX5_overlap 95 = .ok (.iconst 1, 1) := by decide +kernel
theorem dX5_overlap_96 : decode cX5_overlap 96 = .ok (.goto 4, 3) := by decide +kernel
theorem dX5_overlap_99 : decode cX5_overlap 99 = .ok (.iconst 0, 1) := by decide +kernel
theorem dX5_overlap_100 : decode cX5_overlap 100 = .ok (.iadd, 1) := by decide +kernel
theorem dX5_overlap_101 : decode cX5_overlap 101 = .ok (.istore_n 3, 1) := by decide +kernel
theorem dX5_overlap_102 : decode cX5_overlap 102 = .ok (.iinc 4 1, 3) := by decide +kernel
theorem dX5_overlap_105 : decode cX5_overlap 105 = .ok (.goto (-51), 3) := by decide +kernel
theorem dX5_overlap_108 : decode cX5_overlap 108 = .ok (.iload_n 3, 1) := by decide +kernel
theorem dX5_overlap_109 : decode cX5_overlap 109 = .ok (.i2d, 1) := by decide +kernel
theorem dX5_overlap_110 : decode cX5_overlap 110 = .ok (.aload_n 0, 1) := by decide +kernel
theorem dX5_overlap_111 : decode cX5_overlap 111 = .ok (.getfield 9, 3) := by decide +kernel
theorem dX5_overlap_114 : decode cX5_overlap 114 = .ok (.sipush 1550, 3) := by decide +kernel
theorem dX5_overlap_117 : decode cX5_overlap 117 = .ok (.iload_n 1, 1) := by decide +kernel
theorem dX5_overlap_118 : decode cX5_overlap 118 = .ok (.iadd, 1) := by decide +kernel
theorem dX5_overlap_119 : decode cX5_overlap 119 = .ok (.iaload, 1) := by decide +kernel
theorem dX5_overlap_120 : decode cX5_overlap 120 = .ok (.i2d, 1) := by decide +kernel
theorem dX5_overlap_121 : decode cX5_overlap 121 = .ok (.ddiv, 1) := by decide +kernel
theorem dX5_overlap_122 : decode cX5_overlap 122 = .ok (.dreturn, 1) := by decide +kernel
theorem dX5_known_0 : decode cX5_known 0 = .ok (.aload_n 0, 1) := by decide +kernel
theorem dX5_known_1 : decode cX5_known 1 = .ok (.iconst 0, 1) := by decide +kernel
theorem dX5_known_2 : decode cX5_known 2 = .ok (.putfield 38, 3) := by decide +kernel
theorem dX5_known_5 : decode cX5_known 5 = .ok (.iload_n 1, 1) := by decide +kernel
theorem dX5_known_6 : decode cX5_known 6 = .ok (.invokestatic 49, 3) := by decide +kernel
theorem dX5_known_9 : decode cX5_known 9 = .ok (.ifCond .eq 17, 3) := by decide +kernel
theorem dX5_known_12 : decode cX5_known 12 = .ok (.iload_n 2, 1) := by decide +kernel
theorem dX5_known_13 : decode cX5_known 13 = .ok (.invokestatic 49, 3) := by decide +kernel
theorem dX5_known_16 : decode cX5_known 16 = .ok (.ifCond .eq 10, 3) := by decide +kernel
theorem dX5_known_19 : decode cX5_known 19 = .ok (.iload_n 3, 1) := by decide +kernel
theorem dX5_known_20 : decode cX5_known 20 = .ok (.invokestatic 49, 3) := by decide +kernel
theorem dX5_known_23 : decode cX5_known 23 = .ok (.ifCond .ne 9, 3) := by decide +kernel
theorem dX5_known_26 : decode cX5_known 26 = .ok (.aload_n 0, 1) := by decide +kernel
theorem dX5_known_27 : decode cX5_known 27 = .ok (.iconst 1, 1) := by decide +kernel
theorem dX5_known_28 : decode cX5_known 28 = .ok (.invokevirtual 59, 3) := by decide +kernel
theorem dX5_known_31 : decode cX5_known 31 = .ok (.ireturn, 1) := by decide +kernel
theorem dX5_known_32 : decode cX5_known 32 = .ok (.aload_n 0, 1) := by decide +kernel
theorem dX5_known_33 : decode cX5_known 33 = .ok (.iload_n 1, 1) := by decide +kernel
theorem dX5_known_34 : decode cX5_known 34 = .ok (.invokevirtual 53, 3) := by decide +kernel
theorem dX5_known_37 : decode cX5_known 37 = .ok (.ifCond .eq 26, 3) := by decide +kernel
theorem dX5_known_40 : decode cX5_known 40 = .ok (.aload_n 0, 1) := by decide +kernel
theorem dX5_known_41 : decode cX5_known 41 = .ok (.getfield 9, 3) := by decide +kernel
theorem dX5_known_44 : decode cX5_known 44 = .ok (.sipush 4270, 3) := by decide +kernel
theorem dX5_known_47 : decode cX5_known 47 = .ok (.bipush 36, 2) := by decide +kernel
theorem dX5_known_49 : decode cX5_known 49 = .ok (.iload_n 1, 1) := by decide +kernel
theorem dX5_known_50 : decode cX5_known 50 = .ok (.imul, 1) := by decide +kernel
theorem dX5_known_51 : decode cX5_known 51 = .ok (.iadd, 1) := by decide +kernel
theorem dX5_known_52 : decode cX5_known 52 = .ok (.bipush 6, 2) := by decide +kernel
theorem dX5_known_54 : decode cX5_known 54 = .ok (.iload_n 2, 1) := by decide +kernel
theorem dX5_known_55 : decode cX5_known 55 = .ok (.imul, 1) := by decide +kernel
theorem dX5_known_56 : decode cX5_known 56 = .ok (.iadd, 1) := by decide +kernel
theorem dX5_known_57 : decode cX5_known 57 = .ok (.iload_n 3, 1) := by decide +kernel
theorem dX5_known_58 : decode cX5_known 58 = .ok (.iadd, 1) := by decide +kernel
theorem dX5_known_59 : decode cX5_known 59 = .ok (.iaload, 1) := by decide +kernel
theorem dX5_known_60 : decode cX5_known 60 = .ok (.goto 8, 3) := by decide +kernel
theorem dX5_known_63 : decode cX5_known 63 = .ok (.aload_n 0, 1) := by decide +kernel
theorem dX5_known_64 : decode cX5_known 64 = .ok (.iconst 2, 1) := by decide +kernel
theorem dX5_known_65 : decode cX5_known 65 = .ok (.invokevirtual 59, 3) := by decide +kernel
theorem dX5_known_68 : decode cX5_known 68 = .ok (.ireturn, 1) := by decide +kernel
theorem dX5_isSafe_0 : decode cX5_isSafe 0 = .ok (.aload_n 0, 1) := by decide +kernel
theorem dX5_isSafe_1 : decode cX5_isSafe 1 = .ok (.iload_n 2, 1) := by decide +kernel
theorem dX5_isSafe_2 : decode cX5_isSafe 2 = .ok (.invokevirtual 69, 3) := by decide +kernel
theorem dX5_isSafe_5 : decode cX5_isSafe 5 = .ok (.ifCond .ne 5, 3) := by decide +kernel
theorem dX5_isSafe_8 : decode cX5_isSafe 8 = .ok (.iconst 1, 1) := by decide +kernel
theorem dX5_isSafe_9 : decode cX5_isSafe 9 = .ok (.ireturn, 1) := by decide +kernel
theorem dX5_isSafe_10 : decode cX5_isSafe 10 = .ok (.iconst 0, 1) := by decide +kernel
theorem dX5_isSafe_11 : decode cX5_isSafe 11 = .ok (.istore_n 3, 1) := by decide +kernel
theorem dX5_isSafe_12 : decode cX5_isSafe 12 = .ok (.iload_n 3, 1) := by decide +kernel
theorem dX5_isSafe_13 : decode cX5_isSafe 13 = .ok (.bipush 6, 2) := by decide +kernel
theorem dX5_isSafe_15 : decode cX5_isSafe 15 = .ok (.if_icmp .ge 60, 3) := by decide +kernel
theorem dX5_isSafe_18 : decode cX5_isSafe 18 = .ok (.aload_n 0, 1) := by decide +kernel
theorem dX5_isSafe_19 : decode cX5_isSafe 19 = .ok (.iload_n 3, 1) := by decide +kernel
theorem dX5_isSafe_20 : decode cX5_isSafe 20 = .ok (.invokevirtual 53, 3) := by decide +kernel
theorem dX5_isSafe_23 : decode cX5_isSafe 23 = .ok (.ifCond .eq 46, 3) := by decide +kernel
theorem dX5_isSafe_26 : decode cX5_isSafe 26 = .ok (.aload_n 0, 1) := by decide +kernel
theorem dX5_isSafe_27 : decode cX5_isSafe 27 = .ok (.getfield 9, 3) := by decide +kernel
theorem dX5_isSafe_30 : decode cX5_isSafe 30 = .ok (.sipush 4270, 3) := by decide +kernel
theorem dX5_isSafe_33 : decode cX5_isSafe 33 = .ok (.bipush 36, 2) := by decide +kernel
theorem dX5_isSafe_35 : decode cX5_isSafe 35 = .ok (.iload_n 1, 1) := by decide +kernel
theorem dX5_isSafe_36 : decode cX5_isSafe 36 = .ok (.imul, 1) := by decide +kernel
theorem dX5_isSafe_37 : decode cX5_isSafe 37 = .ok (.iadd, 1) := by decide +kernel
theorem dX5_isSafe_38 : decode cX5_isSafe 38 = .ok (.bipush 6, 2) := by decide +kernel
theorem dX5_isSafe_40 : decode cX5_isSafe 40 = .ok (.iload_n 3, 1) := by decide +kernel
theorem dX5_isSafe_41 : decode cX5_isSafe 41 = .ok (.imul, 1) := by decide +kernel
theorem dX5_isSafe_42 : decode cX5_isSafe 42 = .ok (.iadd, 1) := by decide +kernel
theorem dX5_isSafe_43 : decode cX5_isSafe 43 = .ok (.aload_n 0, 1) := by decide +kernel
theorem dX5_isSafe_44 : decode cX5_isSafe 44 = .ok (.getfield 9, 3) := by decide +kernel
theorem dX5_isSafe_47 : decode cX5_isSafe 47 = .ok (.bipush 50, 2) := by decide +kernel
theorem dX5_isSafe_49 : decode cX5_isSafe 49 = .ok (.iload_n 2, 1) := by decide +kernel
theorem dX5_isSafe_50 : decode cX5_isSafe 50 = .ok (.iadd, 1) := by decide +kernel
theorem dX5_isSafe_51 : decode cX5_isSafe 51 = .ok (.iaload, 1) := by decide +kernel
theorem dX5_isSafe_52 : decode cX5_isSafe 52 = .ok (.iadd, 1) := by decide +kernel
theorem dX5_isSafe_53 : decode cX5_isSafe 53 = .ok (.iaload, 1) := by decide +kernel
theorem dX5_isSafe_54 : decode cX5_isSafe 54 = .ok (.aload_n 0, 1) := by decide +kernel
theorem dX5_isSafe_55 : decode cX5_isSafe 55 = .ok (.getfield 9, 3) := by decide +kernel
theorem dX5_isSafe_58 : decode cX5_isSafe 58 = .ok (.sipush 500, 3) := by decide +kernel
theorem dX5_isSafe_61 : decode cX5_isSafe 61 = .ok (.iload_n 2, 1) := by decide +kernel
theorem dX5_isSafe_62 : decode cX5_isSafe 62 = .ok (.iadd, 1) := by decide +kernel
theorem dX5_isSafe_63 : decode cX5_isSafe 63 = .ok (.iaload, 1) := by decide +kernel
theorem dX5_isSafe_64 : decode cX5_isSafe 64 = .ok (.if_icmp .ge 5, 3) := by decide +kernel
theorem dX5_isSafe_67 : decode cX5_isSafe 67 = .ok (.iconst 0, 1) := by decide +kernel
theorem dX5_isSafe_68 : decode cX5_isSafe 68 = .ok (.ireturn, 1) := by decide +kernel
theorem dX5_isSafe_69 : decode cX5_isSafe 69 = .ok (.iinc 3 1, 3) := by decide +kernel
theorem dX5_isSafe_72 : decode cX5_isSafe 72 = .ok (.goto (-60), 3) := by decide +kernel
theorem dX5_isSafe_75 : decode cX5_isSafe 75 = .ok (.iconst 1, 1) := by decide +kernel
theorem dX5_isSafe_76 : decode cX5_isSafe 76 = .ok (.ireturn, 1) := by decide +kernel
theorem dX5_isStable_0 : decode cX5_isStable 0 = .ok (.aload_n 0, 1) := by decide +kernel
theorem dX5_isStable_1 : decode cX5_isStable 1 = .ok (.iload_n 1, 1) := by decide +kernel
theorem dX5_isStable_2 : decode cX5_isStable 2 = .ok (.invokestatic 49, 3) := by decide +kernel
theorem dX5_isStable_5 : decode cX5_isStable 5 = .ok (.ifCond .eq 11, 3) := by decide +kernel
theorem dX5_isStable_8 : decode cX5_isStable 8 = .ok (.aload_n 0, 1) := by decide +kernel
theorem dX5_isStable_9 : decode cX5_isStable 9 = .ok (.iload_n 2, 1) := by decide +kernel
theorem dX5_isStable_10 : decode cX5_isStable 10 = .ok (.invokevirtual 56, 3) := by decide +kernel
theorem dX5_isStable_13 : decode cX5_isStable 13 = .ok (.ifCond .ne 7, 3) := by decide +kernel
theorem dX5_isStable_16 : decode cX5_isStable 16 = .ok (.iconst 1, 1) := by decide +kernel
theorem dX5_isStable_17 : decode cX5_isStable 17 = .ok (.goto 29, 3) := by decide +kernel
theorem dX5_isStable_20 : decode cX5_isStable 20 = .ok (.aload_n 0, 1) := by decide +kernel
theorem dX5_isStable_21 : decode cX5_isStable 21 = .ok (.iload_n 1, 1) := by decide +kernel
theorem dX5_isStable_22 : decode cX5_isStable 22 = .ok (.invokevirtual 53, 3) := by decide +kernel
theorem dX5_isStable_25 : decode cX5_isStable 25 = .ok (.ifCond .ne 7, 3) := by decide +kernel
theorem dX5_isStable_28 : decode cX5_isStable 28 = .ok (.iconst 2, 1) := by decide +kernel
theorem dX5_isStable_29 : decode cX5_isStable 29 = .ok (.goto 17, 3) := by decide +kernel
theorem dX5_isStable_32 : decode cX5_isStable 32 = .ok (.aload_n 0, 1) := by decide +kernel
theorem dX5_isStable_33 : decode cX5_isStable 33 = .ok (.iload_n 1, 1) := by decide +kernel
theorem dX5_isStable_34 : decode cX5_isStable 34 = .ok (.iload_n 2, 1) := by decide +kernel
theorem dX5_isStable_35 : decode cX5_isStable 35 = .ok (.invokevirtual 72, 3) := by decide +kernel
theorem dX5_isStable_38 : decode cX5_isStable 38 = .ok (.ifCond .ne 7, 3) := by decide +kernel
theorem dX5_isStable_41 : decode cX5_isStable 41 = .ok (.iconst 3, 1) := by decide +kernel
theorem dX5_isStable_42 : decode cX5_isStable 42 = .ok (.goto 4, 3) := by decide +kernel
theorem dX5_isStable_45 : decode cX5_isStable 45 = .ok (.iconst 0, 1) := by decide +kernel
theorem dX5_isStable_46 : decode cX5_isStable 46 = .ok (.putfield 38, 3) := by decide +kernel
theorem dX5_isStable_49 : decode cX5_isStable 49 = .ok (.aload_n 0, 1) := by decide +kernel
theorem dX5_isStable_50 : decode cX5_isStable 50 = .ok (.getfield 38, 3) := by decide +kernel
theorem dX5_isStable_53 : decode cX5_isStable 53 = .ok (.ifCond .ne 16, 3) := by decide +kernel
theorem dX5_isStable_56 : decode cX5_isStable 56 = .ok (.aload_n 0, 1) := by decide +kernel
theorem dX5_isStable_57 : decode cX5_isStable 57 = .ok (.iload_n 1, 1) := by decide +kernel
theorem dX5_isStable_58 : decode cX5_isStable 58 = .ok (.iload_n 2, 1) := by decide +kernel
theorem dX5_isStable_59 : decode cX5_isStable 59 = .ok (.invokevirtual 117, 3) := by decide +kernel
theorem dX5_isStable_62 : decode cX5_isStable 62 = .ok (.ifCond .eq 7, 3) := by decide +kernel
theorem dX5_isStable_65 : decode cX5_isStable 65 = .ok (.iconst 1, 1) := by decide +kernel
theorem dX5_isStable_66 : decode cX5_isStable 66 = .ok (.goto 4, 3) := by decide +kernel
theorem dX5_isStable_69 : decode cX5_isStable 69 = .ok (.iconst 0, 1) := by decide +kernel
theorem dX5_isStable_70 : decode cX5_isStable 70 = .ok (.ireturn, 1) := by decide +kernel
theorem dX5_unstable_0 : decode cX5_unstable 0 = .ok (.aload_n 0, 1) := by decide +kernel
theorem dX5_unstable_1 : decode cX5_unstable 1 = .ok (.iload_n 1, 1) := by decide +kernel
theorem dX5_unstable_2 : decode cX5_unstable 2 = .ok (.invokevirtual 96, 3) := by decide +kernel
theorem dX5_unstable_5 : decode cX5_unstable 5 = .ok (.ifCond .ne 5, 3) := by decide +kernel
theorem dX5_unstable_8 : decode cX5_unstable 8 = .ok (.iconst 0, 1) := by decide +kernel
theorem dX5_unstable_9 : decode cX5_unstable 9 = .ok (.ireturn, 1) := by decide +kernel
theorem dX5_unstable_10 : decode cX5_unstable 10 = .ok (.iconst 0, 1) := by decide +kernel
theorem dX5_unstable_11 : decode cX5_unstable 11 = .ok (.istore_n 2, 1) := by decide +kernel
theorem dX5_unstable_12 : decode cX5_unstable 12 = .ok (.iconst 0, 1) := by decide +kernel
theorem dX5_unstable_13 : decode cX5_unstable 13 = .ok (.istore_n 3, 1) := by decide +kernel
theorem dX5_unstable_14 : decode cX5_unstable 14 = .ok (.iload_n 3, 1) := by decide +kernel
theorem dX5_unstable_15 : decode cX5_unstable 15 = .ok (.aload_n 0, 1) := by decide +kernel
theorem dX5_unstable_16 : decode cX5_unstable 16 = .ok (.getfield 9, 3) := by decide +kernel
theorem dX5_unstable_19 : decode cX5_unstable 19 = .ok (.bipush 44, 2) := by decide +kernel
theorem dX5_unstable_21 : decode cX5_unstable 21 = .ok (.iaload, 1) := by decide +kernel
theorem dX5_unstable_22 : decode cX5_unstable 22 = .ok (.if_icmp .ge 35, 3) := by decide +kernel
theorem dX5_unstable_25 : decode cX5_unstable 25 = .ok (.iload_n 2, 1) := by decide +kernel
theorem dX5_unstable_26 : decode cX5_unstable 26 = .ok (.aload_n 0, 1) := by decide +kernel
theorem dX5_unstable_27 : decode cX5_unstable 27 = .ok (.iload_n 1, 1) := by decide +kernel
theorem dX5_unstable_28 : decode cX5_unstable 28 = .ok (.iload_n 3, 1) := by decide +kernel
theorem dX5_unstable_29 : decode cX5_unstable 29 = .ok (.invokevirtual 72, 3) := by decide +kernel
theorem dX5_unstable_32 : decode cX5_unstable 32 = .ok (.ifCond .eq 16, 3) := by decide +kernel
theorem dX5_unstable_35 : decode cX5_unstable 35 = .ok (.aload_n 0, 1) := by decide +kernel
theorem dX5_unstable_36 : decode cX5_unstable 36 = .ok (.iload_n 1, 1) := by decide +kernel
theorem dX5_unstable_37 : decode cX5_unstable 37 = .ok (.iload_n 3, 1) := by decide +kernel
theorem dX5_unstable_38 : decode cX5_unstable 38 = .ok (.invokevirtual 117, 3) := by decide +kernel
theorem dX5_unstable_41 : decode cX5_unstable 41 = .ok (.ifCond .ne 7, 3) := by decide +kernel
theorem dX5_unstable_44 : decode cX5_unstable 44 = .ok (.iconst 1, 1) := by decide +kernel
theorem dX5_unstable_45 : decode cX5_unstable 45 = .ok (.goto 4, 3) := by decide +kernel
theorem dX5_unstable_48 : decode cX5_unstable 48 = .ok (.iconst 0, 1) := by decide +kernel
theorem dX5_unstable_49 : decode cX5_unstable 49 = .ok (.iadd, 1) := by decide +kernel
theorem dX5_unstable_50 : decode cX5_unstable 50 = .ok (.istore_n 2, 1) := by decide +kernel
theorem dX5_unstable_51 : decode cX5_unstable 51 = .ok (.iinc 3 1, 3) := by decide +kernel
theorem dX5_unstable_54 : decode cX5_unstable 54 = .ok (.goto (-40), 3) := by decide +kernel
theorem dX5_unstable_57 : decode cX5_unstable 57 = .ok (.iload_n 2, 1) := by decide +kernel
theorem dX5_unstable_58 : decode cX5_unstable 58 = .ok (.ireturn, 1) := by decide +kernel
theorem dX5_isWithAll_0 : decode cX5_isWithAll 0 = .ok (.iconst 0, 1) := by decide +kernel
theorem dX5_isWithAll_1 : decode cX5_isWithAll 1 = .ok (.istore_n 2, 1) := by decide +kernel
theorem dX5_isWithAll_2 : decode cX5_isWithAll 2 = .ok (.iload_n 2, 1) := by decide +kernel
theorem dX5_isWithAll_3 : decode cX5_isWithAll 3 = .ok (.bipush 6, 2) := by decide +kernel
theorem dX5_isWithAll_5 : decode cX5_isWithAll 5 = .ok (.if_icmp .ge 28, 3) := by decide +kernel
theorem dX5_isWithAll_8 : decode cX5_isWithAll 8 = .ok (.aload_n 0, 1) := by decide +kernel
theorem dX5_isWithAll_9 : decode cX5_isWithAll 9 = .ok (.iload_n 2, 1) := by decide +kernel
theorem dX5_isWithAll_10 : decode cX5_isWithAll 10 = .ok (.invokevirtual 53, 3) := by decide +kernel
theorem dX5_isWithAll_13 : decode cX5_isWithAll 13 = .ok (.ifCond .eq 14, 3) := by decide +kernel
theorem dX5_isWithAll_16 : decode cX5_isWithAll 16 = .ok (.aload_n 0, 1) := by decide +kernel
theorem dX5_isWithAll_17 : decode cX5_isWithAll 17 = .ok (.iload_n 2, 1) := by decide +kernel
theorem dX5_isWithAll_18 : decode cX5_isWithAll 18 = .ok (.iload_n 1, 1) := by decide +kernel
theorem dX5_isWithAll_19 : decode cX5_isWithAll 19 = .ok (.invokevirtual 72, 3) := by decide +kernel
theorem dX5_isWithAll_22 : decode cX5_isWithAll 22 = .ok (.ifCond .ne 5, 3) := by decide +kernel
theorem dX5_isWithAll_25 : decode cX5_isWithAll 25 = .ok (.iconst 0, 1) := by decide +kernel
theorem dX5_isWithAll_26 : decode cX5_isWithAll 26 = .ok (.ireturn, 1) := by decide +kernel
theorem dX5_isWithAll_27 : decode cX5_isWithAll 27 = .ok (.iinc 2 1, 3) := by decide +kernel
theorem dX5_isWithAll_30 : decode cX5_isWithAll 30 = .ok (.goto (-28), 3) := by decide +kernel
theorem dX5_isWithAll_33 : decode cX5_isWithAll 33 = .ok (.iconst 1, 1) := by decide +kernel
theorem dX5_isWithAll_34 : decode cX5_isWithAll 34 = .ok (.ireturn, 1) := by decide +kernel
theorem dX5_isEverywhere_0 : decode cX5_isEverywhere 0 = .ok (.aload_n 0, 1) := by decide +kernel
theorem dX5_isEverywhere_1 : decode cX5_isEverywhere 1 = .ok (.iload_n 1, 1) := by decide +kernel
theorem dX5_isEverywhere_2 : decode cX5_isEverywhere 2 = .ok (.invokevirtual 108, 3) := by decide +kernel
theorem dX5_isEverywhere_5 : decode cX5_isEverywhere 5 = .ok (.ifCond .eq 15, 3) := by decide +kernel
theorem dX5_isEverywhere_8 : decode cX5_isEverywhere 8 = .ok (.aload_n 0, 1) := by decide +kernel
theorem dX5_isEverywhere_9 : decode cX5_isEverywhere 9 = .ok (.iload_n 1, 1) := by decide +kernel
theorem dX5_isEverywhere_10 : decode cX5_isEverywhere 10 = .ok (.invokevirtual 120, 3) := by decide +kernel
theorem dX5_isEverywhere_13 : decode cX5_isEverywhere 13 = .ok (.ifCond .eq 7, 3) := by decide +kernel
theorem dX5_isEverywhere_16 : decode cX5_isEverywhere 16 = .ok (.iconst 1, 1) := by decide +kernel
theorem dX5_isEverywhere_17 : decode cX5_isEverywhere 17 = .ok (.goto 4, 3) := by decide +kernel
theorem dX5_isEverywhere_20 : decode cX5_isEverywhere 20 = .ok (.iconst 0, 1) := by decide +kernel
theorem dX5_isEverywhere_21 : decode cX5_isEverywhere 21 = .ok (.ireturn, 1) := by decide +kernel
theorem dX5_firstUnaware_0 : decode cX5_firstUnaware 0 = .ok (.aload_n 0, 1) := by decide +kernel
theorem dX5_firstUnaware_1 : decode cX5_firstUnaware 1 = .ok (.iload_n 1, 1) := by decide +kernel
theorem dX5_firstUnaware_2 : decode cX5_firstUnaware 2 = .ok (.invokevirtual 108, 3) := by decide +kernel
theorem dX5_firstUnaware_5 : decode cX5_firstUnaware 5 = .ok (.ifCond .ne 5, 3) := by decide +kernel
theorem dX5_firstUnaware_8 : decode cX5_firstUnaware 8 = .ok (.iconst 0, 1) := by decide +kernel
theorem dX5_firstUnaware_9 : decode cX5_firstUnaware 9 = .ok (.ireturn, 1) := by decide +kernel
theorem dX5_firstUnaware_10 : decode cX5_firstUnaware 10 = .ok (.iconst 0, 1) := by decide +kernel
theorem dX5_firstUnaware_11 : decode cX5_firstUnaware 11 = .ok (.istore_n 2, 1) := by decide +kernel
theorem dX5_firstUnaware_12 : decode cX5_firstUnaware 12 = .ok (.iload_n 2, 1) := by decide +kernel
theorem dX5_firstUnaware_13 : decode cX5_firstUnaware 13 = .ok (.bipush 6, 2) := by decide +kernel
theorem dX5_firstUnaware_15 : decode cX5_firstUnaware 15 = .ok (.if_icmp .ge 36, 3) := by decide +kernel
theorem dX5_firstUnaware_18 : decode cX5_firstUnaware 18 = .ok (.aload_n 0, 1) := by decide +kernel
theorem dX5_firstUnaware_19 : decode cX5_firstUnaware 19 = .ok (.iload_n 1, 1) := by decide +kernel
theorem dX5_firstUnaware_20 : decode cX5_firstUnaware 20 = .ok (.invokevirtual 120, 3) := by decide +kernel
theorem dX5_firstUnaware_23 : decode cX5_firstUnaware 23 = .ok (.ifCond .eq 28, 3) := by decide +kernel
theorem dX5_firstUnaware_26 : decode cX5_firstUnaware 26 = .ok (.aload_n 0, 1) := by decide +kernel
theorem dX5_firstUnaware_27 : decode cX5_firstUnaware 27 = .ok (.iload_n 2, 1) := by decide +kernel
theorem dX5_firstUnaware_28 : decode cX5_firstUnaware 28 = .ok (.invokevirtual 53, 3) := by decide +kernel
theorem dX5_firstUnaware_31 : decode cX5_firstUnaware 31 = .ok (.ifCond .eq 14, 3) := by decide +kernel
theorem dX5_firstUnaware_34 : decode cX5_firstUnaware 34 = .ok (.aload_n 0, 1) := by decide +kernel
theorem dX5_firstUnaware_35 : decode cX5_firstUnaware 35 = .ok (.iload_n 2, 1) := by decide +kernel
theorem dX5_firstUnaware_36 : decode cX5_firstUnaware 36 = .ok (.iload_n 1, 1) := by decide +kernel
theorem dX5_firstUnaware_37 : decode cX5_firstUnaware 37 = .ok (.invokevirtual 117, 3) := by decide +kernel
theorem dX5_firstUnaware_40 : decode cX5_firstUnaware 40 = .ok (.ifCond .ne 5, 3) := by decide +kernel
theorem dX5_firstUnaware_43 : decode cX5_firstUnaware 43 = .ok (.iload_n 2, 1) := by decide +kernel
theorem dX5_firstUnaware_44 : decode cX5_firstUnaware 44 = .ok (.ireturn, 1) := by decide +kernel
theorem dX5_firstUnaware_45 : decode cX5_firstUnaware 45 = .ok (.iinc 2 1, 3) := by decide +kernel
theorem dX5_firstUnaware_48 : decode cX5_firstUnaware 48 = .ok (.goto (-36), 3) := by decide +kernel
theorem dX5_firstUnaware_51 : decode cX5_firstUnaware 51 = .ok (.aload_n 0, 1) := by decide +kernel
theorem dX5_firstUnaware_52 : decode cX5_firstUnaware 52 = .ok (.iconst 2, 1) := by decide +kernel
theorem dX5_firstUnaware_53 : decode cX5_firstUnaware 53 = .ok (.invokevirtual 59, 3) := by decide +kernel
theorem dX5_firstUnaware_56 : decode cX5_firstUnaware 56 = .ok (.ireturn, 1) := by decide +kernel
theorem dX5_append_0 : decode cX5_append 0 = .ok (.aload_n 0, 1) := by decide +kernel
theorem dX5_append_1 : decode cX5_append 1 = .ok (.iconst 0, 1) := by decide +kernel
theorem dX5_append_2 : decode cX5_append 2 = .ok (.putfield 38, 3) := by decide +kernel
theorem dX5_append_5 : decode cX5_append 5 = .ok (.iload_n 1, 1) := by decide +kernel
theorem dX5_append_6 : decode cX5_append 6 = .ok (.bipush 32, 2) := by decide +kernel
theorem dX5_append_8 : decode cX5_append 8 = .ok (.bipush 126, 2) := by decide +kernel
theorem dX5_append_10 : decode cX5_append 10 = .ok (.invokestatic 41, 3) := by decide +kernel
theorem dX5_append_13 : decode cX5_append 13 = .ok (.ifCond .ne 9, 3) := by decide +kernel
theorem dX5_append_16 : decode cX5_append 16 = .ok (.aload_n 0, 1) := by decide +kernel
theorem dX5_append_17 : decode cX5_append 17 = .ok (.iconst 1, 1) := by decide +kernel
theorem dX5_append_18 : decode cX5_append 18 = .ok (.invokevirtual 59, 3) := by decide +kernel
theorem dX5_append_21 : decode cX5_append 21 = .ok (.ireturn, 1) := by decide +kernel
theorem dX5_append_22 : decode cX5_append 22 = .ok (.aload_n 0, 1) := by decide +kernel
theorem dX5_append_23 : decode cX5_append 23 = .ok (.getfield 123, 3) := by decide +kernel
theorem dX5_append_26 : decode cX5_append 26 = .ok (.bipush 60, 2) := by decide +kernel
theorem dX5_append_28 : decode cX5_append 28 = .ok (.if_icmp .ne 9, 3) := by decide +kernel
theorem dX5_append_31 : decode cX5_append 31 = .ok (.aload_n 0, 1) := by decide +kernel
theorem dX5_append_32 : decode cX5_append 32 = .ok (.iconst 2, 1) := by decide +kernel
theorem dX5_append_33 : decode cX5_append 33 = .ok (.invokevirtual 59, 3) := by decide +kernel
theorem dX5_append_36 : decode cX5_append 36 = .ok (.ireturn, 1) := by decide +kernel
theorem dX5_append_37 : decode cX5_append 37 = .ok (.aload_n 0, 1) := by decide +kernel
theorem dX5_append_38 : decode cX5_append 38 = .ok (.getfield 19, 3) := by decide +kernel
theorem dX5_append_41 : decode cX5_append 41 = .ok (.aload_n 0, 1) := by decide +kernel
theorem dX5_append_42 : decode cX5_append 42 = .ok (.getfield 123, 3) := by decide +kernel
theorem dX5_append_45 : decode cX5_append 45 = .ok (.iload_n 1, 1) := by decide +kernel
theorem dX5_append_46 : decode cX5_append 46 = .ok (.iastore, 1) := by decide +kernel
theorem dX5_append_47 : decode cX5_append 47 = .ok (.aload_n 0, 1) := by decide +kernel
theorem dX5_append_48 : decode cX5_append 48 = .ok (.dup, 1) := by decide +kernel
theorem dX5_append_49 : decode cX5_append 49 = .ok (.getfield 123, 3) := by decide +kernel
theorem dX5_append_52 : decode cX5_append 52 = .ok (.iconst 1, 1) := by decide +kernel
theorem dX5_append_53 : decode cX5_append 53 = .ok (.iadd, 1) := by decide +kernel
theorem dX5_append_54 : decode cX5_append 54 = .ok (.putfield 123, 3) := by decide +kernel
theorem dX5_append_57 : decode cX5_append 57 = .ok (.aload_n 0, 1) := by decide +kernel
theorem dX5_append_58 : decode cX5_append 58 = .ok (.getfield 123, 3) := by decide +kernel
theorem dX5_append_61 : decode cX5_append 61 = .ok (.ireturn, 1) := by decide +kernel
theorem dX5_here_0 : decode cX5_here 0 = .ok (.aload_n 0, 1) := by decide +kernel
theorem dX5_here_1 : decode cX5_here 1 = .ok (.getfield 126, 3) := by decide +kernel
theorem dX5_here_4 : decode cX5_here 4 = .ok (.aload_n 0, 1) := by decide +kernel
theorem dX5_here_5 : decode cX5_here 5 = .ok (.getfield 123, 3) := by decide +kernel
theorem dX5_here_8 : decode cX5_here 8 = .ok (.if_icmp .ge 15, 3) := by decide +kernel
theorem dX5_here_11 : decode cX5_here 11 = .ok (.aload_n 0, 1) := by decide +kernel
theorem dX5_here_12 : decode cX5_here 12 = .ok (.getfield 19, 3) := by decide +kernel
theorem dX5_here_15 : decode cX5_here 15 = .ok (.aload_n 0, 1) := by decide +kernel
theorem dX5_here_16 : decode cX5_here 16 = .ok (.getfield 126, 3) := by decide +kernel
theorem dX5_here_19 : decode cX5_here 19 = .ok (.iaload, 1) := by decide +kernel
theorem dX5_here_20 : decode cX5_here 20 = .ok (.goto 4, 3) := by decide +kernel
theorem dX5_here_23 : decode cX5_here 23 = .ok (.iconst (-1), 1) := by decide +kernel
theorem dX5_here_24 : decode cX5_here 24 = .ok (.ireturn, 1) := by decide +kernel
theorem dX5_digit_0 : decode cX5_digit 0 = .ok (.aload_n 0, 1) := by decide +kernel
theorem dX5_digit_1 : decode cX5_digit 1 = .ok (.invokevirtual 129, 3) := by decide +kernel
theorem dX5_digit_4 : decode cX5_digit 4 = .ok (.bipush 48, 2) := by decide +kernel
theorem dX5_digit_6 : decode cX5_digit 6 = .ok (.isub, 1) := by decide +kernel
theorem dX5_digit_7 : decode cX5_digit 7 = .ok (.istore_n 2, 1) := by decide +kernel
theorem dX5_digit_8 : decode cX5_digit 8 = .ok (.aload_n 0, 1) := by decide +kernel
theorem dX5_digit_9 : decode cX5_digit 9 = .ok (.dup, 1) := by decide +kernel
theorem dX5_digit_10 : decode cX5_digit 10 = .ok (.getfield 132, 3) := by decide +kernel
theorem dX5_digit_13 : decode cX5_digit 13 = .ok (.iload_n 2, 1) := by decide +kernel
theorem dX5_digit_14 : decode cX5_digit 14 = .ok (.iconst 0, 1) := by decide +kernel
theorem dX5_digit_15 : decode cX5_digit 15 = .ok (.iload_n 1, 1) := by decide +kernel
theorem dX5_digit_16 : decode cX5_digit 16 = .ok (.invokestatic 41, 3) := by decide +kernel
theorem dX5_digit_19 : decode cX5_digit 19 = .ok (.ifCond .ne 7, 3) := by decide +kernel
theorem dX5_digit_22 : decode cX5_digit 22 = .ok (.iconst 1, 1) := by decide +kernel
theorem dX5_digit_23 : decode cX5_digit 23 = .ok (.goto 4, 3) := by decide +kernel
theorem dX5_digit_26 : decode cX5_digit 26 = .ok (.iconst 0, 1) := by decide +kernel
theorem dX5_digit_27 : decode cX5_digit 27 = .ok (.ior, 1) := by decide +kernel
theorem dX5_digit_28 : decode cX5_digit 28 = .ok (.putfield 132, 3) := by decide +kernel
theorem dX5_digit_31 : decode cX5_digit 31 = .ok (.aload_n 0, 1) := by decide +kernel
theorem dX5_digit_32 : decode cX5_digit 32 = .ok (.dup, 1) := by decide +kernel
theorem dX5_digit_33 : decode cX5_digit 33 = .ok (.getfield 126, 3) := by decide +kernel
theorem dX5_digit_36 : decode cX5_digit 36 = .ok (.aload_n 0, 1) := by decide +kernel
theorem dX5_digit_37 : decode cX5_digit 37 = .ok (.getfield 132, 3) := by decide +kernel
theorem dX5_digit_40 : decode cX5_digit 40 = .ok (.ifCond .eq 7, 3) := by decide +kernel
theorem dX5_digit_43 : decode cX5_digit 43 = .ok (.iconst 0, 1) := by decide +kernel
theorem dX5_digit_44 : decode cX5_digit 44 = .ok (.goto 4, 3) := by decide +kernel
theorem dX5_digit_47 : decode cX5_digit 47 = .ok (.iconst 1, 1) := by decide +kernel
theorem dX5_digit_48 : decode cX5_digit 48 = .ok (.iadd, 1) := by decide +kernel
theorem dX5_digit_49 : decode cX5_digit 49 = .ok (.putfield 126, 3) := by decide +kernel
theorem dX5_digit_52 : decode cX5_digit 52 = .ok (.iload_n 2, 1) := by decide +kernel
theorem dX5_digit_53 : decode cX5_digit 53 = .ok (.ireturn, 1) := by decide +kernel
theorem dX5_sign_0 : decode cX5_sign 0 = .ok (.aload_n 0, 1) := by decide +kernel
theorem dX5_sign_1 : decode cX5_sign 1 = .ok (.dup, 1) := by decide +kernel
theorem dX5_sign_2 : decode cX5_sign 2 = .ok (.getfield 132, 3) := by decide +kernel
theorem dX5_sign_5 : decode cX5_sign 5 = .ok (.aload_n 0, 1) := by decide +kernel
theorem dX5_sign_6 : decode cX5_sign 6 = .ok (.invokevirtual 129, 3) := by decide +kernel
theorem dX5_sign_9 : decode cX5_sign 9 = .ok (.iload_n 1, 1) := by decide +kernel
theorem dX5_sign_10 : decode cX5_sign 10 = .ok (.if_icmp .eq 7, 3) := by decide +kernel
theorem dX5_sign_13 : decode cX5_sign 13 = .ok (.iconst 1, 1) := by decide +kernel
theorem dX5_sign_14 : decode cX5_sign 14 = .ok (.goto 4, 3) := by decide +kernel
theorem dX5_sign_17 : decode cX5_sign 17 = .ok (.iconst 0, 1) := by decide +kernel
theorem dX5_sign_18 : decode cX5_sign 18 = .ok (.ior, 1) := by decide +kernel
theorem dX5_sign_19 : decode cX5_sign 19 = .ok (.putfield 132, 3) := by decide +kernel
theorem dX5_sign_22 : decode cX5_sign 22 = .ok (.aload_n 0, 1) := by decide +kernel
theorem dX5_sign_23 : decode cX5_sign 23 = .ok (.dup, 1) := by decide +kernel
theorem dX5_sign_24 : decode cX5_sign 24 = .ok (.getfield 126, 3) := by decide +kernel
theorem dX5_sign_27 : decode cX5_sign 27 = .ok (.aload_n 0, 1) := by decide +kernel
theorem dX5_sign_28 : decode cX5_sign 28 = .ok (.getfield 132, 3) := by decide +kernel
theorem dX5_sign_31 : decode cX5_sign 31 = .ok (.ifCond .eq 7, 3) := by decide +kernel
theorem dX5_sign_34 : decode cX5_sign 34 = .ok (.iconst 0, 1) := by decide +kernel
theorem dX5_sign_35 : decode cX5_sign 35 = .ok (.goto 4, 3) := by decide +kernel
theorem dX5_sign_38 : decode cX5_sign 38 = .ok (.iconst 1, 1) := by decide +kernel
theorem dX5_sign_39 : decode cX5_sign 39 = .ok (.iadd, 1) := by decide +kernel
theorem dX5_sign_40 : decode cX5_sign 40 = .ok (.putfield 126, 3) := by decide +kernel
theorem dX5_sign_43 : decode cX5_sign 43 = .ok (.return_, 1) := by decide +kernel
theorem dX5_number_0 : decode cX5_number 0 = .ok (.aload_n 0, 1) := by decide +kernel
theorem dX5_number_1 : decode cX5_number 1 = .ok (.getfield 132, 3) := by decide +kernel
theorem dX5_number_4 : decode cX5_number 4 = .ok (.ifCond .eq 7, 3) := by decide +kernel
theorem dX5_number_7 : decode cX5_number 7 = .ok (.iconst 0, 1) := by decide +kernel
theorem dX5_number_8 : decode cX5_number 8 = .ok (.goto 9, 3) := by decide +kernel
theorem dX5_number_11 : decode cX5_number 11 = .ok (.aload_n 0, 1) := by decide +kernel
theorem dX5_number_12 : decode cX5_number 12 = .ok (.bipush 9, 2) := by decide +kernel
theorem dX5_number_14 : decode cX5_number 14 = .ok (.invokevirtual 136, 3) := by decide +kernel
theorem dX5_number_17 : decode cX5_number 17 = .ok (.istore_n 1, 1) := by decide +kernel
theorem dX5_number_18 : decode cX5_number 18 = .ok (.iconst 1, 1) := by decide +kernel
theorem dX5_number_19 : decode cX5_number 19 = .ok (.istore_n 2, 1) := by decide +kernel
theorem dX5_number_20 : decode cX5_number 20 = .ok (.iload_n 2, 1) := by decide +kernel
theorem dX5_number_21 : decode cX5_number 21 = .ok (.iconst 3, 1) := by decide +kernel
theorem dX5_number_22 : decode cX5_number 22 = .ok (.if_icmp .ge 42, 3) := by decide +kernel
theorem dX5_number_25 : decode cX5_number 25 = .ok (.aload_n 0, 1) := by decide +kernel
theorem dX5_number_26 : decode cX5_number 26 = .ok (.getfield 132, 3) := by decide +kernel
theorem dX5_number_29 : decode cX5_number 29 = .ok (.ifCond .ne 35, 3) := by decide +kernel
theorem dX5_number_32 : decode cX5_number 32 = .ok (.aload_n 0, 1) := by decide +kernel
theorem dX5_number_33 : decode cX5_number 33 = .ok (.invokevirtual 129, 3) := by decide +kernel
theorem dX5_number_36 : decode cX5_number 36 = .ok (.bipush 48, 2) := by decide +kernel
theorem dX5_number_38 : decode cX5_number 38 = .ok (.bipush 57, 2) := by decide +kernel
theorem dX5_number_40 : decode cX5_number 40 = .ok (.invokestatic 41, 3) := by decide +kernel
theorem dX5_number_43 : decode cX5_number 43 = .ok (.ifCond .eq 21, 3) := by decide +kernel
theorem dX5_number_46 : decode cX5_number 46 = .ok (.bipush 10, 2) := by decide +kernel
theorem dX5_number_48 : decode cX5_number 48 = .ok (.iload_n 1, 1) := by decide +kernel
theorem dX5_number_49 : decode cX5_number 49 = .ok (.imul, 1) := by decide +kernel
theorem dX5_number_50 : decode cX5_number 50 = .ok (.aload_n 0, 1) := by decide +kernel
theorem dX5_number_51 : decode cX5_number 51 = .ok (.bipush 9, 2) := by decide +kernel
theorem dX5_number_53 : decode cX5_number 53 = .ok (.invokevirtual 136, 3) := by decide +kernel
theorem dX5_number_56 : decode cX5_number 56 = .ok (.iadd, 1) := by decide +kernel
theorem dX5_number_57 : decode cX5_number 57 = .ok (.istore_n 1, 1) := by decide +kernel
theorem dX5_number_58 : decode cX5_number 58 = .ok (.iinc 2 1, 3) := by decide +kernel
theorem dX5_number_61 : decode cX5_number 61 = .ok (.goto (-41), 3) := by decide +kernel
theorem dX5_number_64 : decode cX5_number 64 = .ok (.iload_n 1, 1) := by decide +kernel
theorem dX5_number_65 : decode cX5_number 65 = .ok (.ireturn, 1) := by decide +kernel
theorem dX5_event_0 : decode cX5_event 0 = .ok (.aload_n 0, 1) := by decide +kernel
theorem dX5_event_1 : decode cX5_event 1 = .ok (.invokevirtual 129, 3) := by decide +kernel
theorem dX5_event_4 : decode cX5_event 4 = .ok (.istore_n 2, 1) := by decide +kernel
theorem dX5_event_5 : decode cX5_event 5 = .ok (.aload_n 0, 1) := by decide +kernel
theorem dX5_event_6 : decode cX5_event 6 = .ok (.dup, 1) := by decide +kernel
theorem dX5_event_7 : decode cX5_event 7 = .ok (.getfield 132, 3) := by decide +kernel
theorem dX5_event_10 : decode cX5_event 10 = .ok (.iload_n 2, 1) := by decide +kernel
theorem dX5_event_11 : decode cX5_event 11 = .ok (.bipush 98, 2) := by decide +kernel
theorem dX5_event_13 : decode cX5_event 13 = .ok (.if_icmp .eq 37, 3) := by decide +kernel
theorem dX5_event_16 : decode cX5_event 16 = .ok (.iload_n 2, 1) := by decide +kernel
theorem dX5_event_17 : decode cX5_event 17 = .ok (.bipush 97, 2) := by decide +kernel
theorem dX5_event_19 : decode cX5_event 19 = .ok (.if_icmp .eq 31, 3) := by decide +kernel
theorem dX5_event_22 : decode cX5_event 22 = .ok (.iload_n 2, 1) := by decide +kernel
theorem dX5_event_23 : decode cX5_event 23 = .ok (.bipush 103, 2) := by decide +kernel
theorem dX5_event_25 : decode cX5_event 25 = .ok (.if_icmp .eq 25, 3) := by decide +kernel
theorem dX5_event_28 : decode cX5_event 28 = .ok (.iload_n 2, 1) := by decide +kernel
theorem dX5_event_29 : decode cX5_event 29 = .ok (.bipush 106, 2) := by decide +kernel
theorem dX5_event_31 : decode cX5_event 31 = .ok (.if_icmp .eq 19, 3) := by decide +kernel
theorem dX5_event_34 : decode cX5_event 34 = .ok (.iload_n 2, 1) := by decide +kernel
theorem dX5_event_35 : decode cX5_event 35 = .ok (.bipush 108, 2) := by decide +kernel
theorem dX5_event_37 : decode cX5_event 37 = .ok (.if_icmp .eq 13, 3) := by decide +kernel
theorem dX5_event_40 : decode cX5_event 40 = .ok (.iload_n 2, 1) := by decide +kernel
theorem dX5_event_41 : decode cX5_event 41 = .ok (.bipush 105, 2) := by decide +kernel
theorem dX5_event_43 : decode cX5_event 43 = .ok (.if_icmp .eq 7, 3) := by decide +kernel
theorem dX5_event_46 : decode cX5_event 46 = .ok (.iconst 1, 1) := by decide +kernel
theorem dX5_event_47 : decode cX5_event 47 = .ok (.goto 4, 3) := by decide +kernel
theorem dX5_event_50 : decode cX5_event 50 = .ok (.iconst 0, 1) := by decide +kernel
theorem dX5_event_51 : decode cX5_event 51 = .ok (.ior, 1) := by decide +kernel
theorem dX5_event_52 : decode cX5_event 52 = .ok (.putfield 132, 3) := by decide +kernel
theorem dX5_event_55 : decode cX5_event 55 = .ok (.aload_n 0, 1) := by decide +kernel
theorem dX5_event_56 : decode cX5_event 56 = .ok (.getfield 132, 3) := by decide +kernel
theorem dX5_event_59 : decode cX5_event 59 = .ok (.ifCond .eq 4, 3) := by decide +kernel
theorem dX5_event_62 : decode cX5_event 62 = .ok (.return_, 1) := by decide +kernel
theorem dX5_event_63 : decode cX5_event 63 = .ok (.aload_n 0, 1) := by decide +kernel
theorem dX5_event_64 : decode cX5_event 64 = .ok (.dup, 1) := by decide +kernel
theorem dX5_event_65 : decode cX5_event 65 = .ok (.getfield 126, 3) := by decide +kernel
theorem dX5_event_68 : decode cX5_event 68 = .ok (.iconst 1, 1) := by decide +kernel
theorem dX5_event_69 : decode cX5_event 69 = .ok (.iadd, 1) := by decide +kernel
theorem dX5_event_70 : decode cX5_event 70 = .ok (.putfield 126, 3) := by decide +kernel
theorem dX5_event_73 : decode cX5_event 73 = .ok (.aload_n 0, 1) := by decide +kernel
theorem dX5_event_74 : decode cX5_event 74 = .ok (.getfield 29, 3) := by decide +kernel
theorem dX5_event_77 : decode cX5_event 77 = .ok (.iload_n 1, 1) := by decide +kernel
theorem dX5_event_78 : decode cX5_event 78 = .ok (.iload_n 2, 1) := by decide +kernel
theorem dX5_event_79 : decode cX5_event 79 = .ok (.iastore, 1) := by decide +kernel
theorem dX5_event_80 : decode cX5_event 80 = .ok (.iload_n 2, 1) := by decide +kernel
theorem dX5_event_81 : decode cX5_event 81 = .ok (.bipush 105, 2) := by decide +kernel
theorem dX5_event_83 : decode cX5_event 83 = .ok (.if_icmp .ne 4, 3) := by decide +kernel
theorem dX5_event_86 : decode cX5_event 86 = .ok (.return_, 1) := by decide +kernel
theorem dX5_event_87 : decode cX5_event 87 = .ok (.aload_n 0, 1) := by decide +kernel
theorem dX5_event_88 : decode cX5_event 88 = .ok (.getfield 32, 3) := by decide +kernel
theorem dX5_event_91 : decode cX5_event 91 = .ok (.iload_n 1, 1) := by decide +kernel
theorem dX5_event_92 : decode cX5_event 92 = .ok (.aload_n 0, 1) := by decide +kernel
theorem dX5_event_93 : decode cX5_event 93 = .ok (.iconst 5, 1) := by decide +kernel
theorem dX5_event_94 : decode cX5_event 94 = .ok (.invokevirtual 136, 3) := by decide +kernel
theorem dX5_event_97 : decode cX5_event 97 = .ok (.iastore, 1) := by decide +kernel
theorem dX5_event_98 : decode cX5_event 98 = .ok (.aload_n 0, 1) := by decide +kernel
theorem dX5_event_99 : decode cX5_event 99 = .ok (.getfield 132, 3) := by decide +kernel
theorem dX5_event_102 : decode cX5_event 102 = .ok (.ifCond .ne 15, 3) := by decide +kernel
theorem dX5_event_105 : decode cX5_event 105 = .ok (.iload_n 2, 1) := by decide +kernel
theorem dX5_event_106 : decode cX5_event 106 = .ok (.bipush 106, 2) := by decide +kernel
theorem dX5_event_108 : decode cX5_event 108 = .ok (.if_icmp .eq 9, 3) := by decide +kernel
theorem dX5_event_111 : decode cX5_event 111 = .ok (.iload_n 2, 1) := by decide +kernel
theorem dX5_event_112 : decode cX5_event 112 = .ok (.bipush 108, 2) := by decide +kernel
theorem dX5_event_114 : decode cX5_event 114 = .ok (.if_icmp .ne 4, 3) := by decide +kernel
theorem dX5_event_117 : decode cX5_event 117 = .ok (.return_, 1) := by decide +kernel
theorem dX5_event_118 : decode cX5_event 118 = .ok (.aload_n 0, 1) := by decide +kernel
theorem dX5_event_119 : decode cX5_event 119 = .ok (.iload_n 2, 1) := by decide +kernel
theorem dX5_event_120 : decode cX5_event 120 = .ok (.bipush 98, 2) := by decide +kernel
theorem dX5_event_122 : decode cX5_event 122 = .ok (.if_icmp .ne 8, 3) := by decide +kernel
theorem dX5_event_125 : decode cX5_event 125 = .ok (.bipush 61, 2) := by decide +kernel
theorem dX5_event_127 : decode cX5_event 127 = .ok (.goto 5, 3) := by decide +kernel
theorem dX5_event_130 : decode cX5_event 130 = .ok (.bipush 44, 2) := by decide +kernel
theorem dX5_event_132 : decode cX5_event 132 = .ok (.invokevirtual 139, 3) := by decide +kernel
theorem dX5_event_135 : decode cX5_event 135 = .ok (.aload_n 0, 1) := by decide +kernel
theorem dX5_event_136 : decode cX5_event 136 = .ok (.getfield 132, 3) := by decide +kernel
theorem dX5_event_139 : decode cX5_event 139 = .ok (.ifCond .eq 4, 3) := by decide +kernel
theorem dX5_event_142 : decode cX5_event 142 = .ok (.return_, 1) := by decide +kernel
theorem dX5_event_143 : decode cX5_event 143 = .ok (.iload_n 2, 1) := by decide +kernel
theorem dX5_event_144 : decode cX5_event 144 = .ok (.bipush 103, 2) := by decide +kernel
theorem dX5_event_146 : decode cX5_event 146 = .ok (.if_icmp .ne 15, 3) := by decide +kernel
theorem dX5_event_149 : decode cX5_event 149 = .ok (.aload_n 0, 1) := by decide +kernel
theorem dX5_event_150 : decode cX5_event 150 = .ok (.getfield 35, 3) := by decide +kernel
theorem dX5_event_153 : decode cX5_event 153 = .ok (.iload_n 1, 1) := by decide +kernel
theorem dX5_event_154 : decode cX5_event 154 = .ok (.aload_n 0, 1) := by decide +kernel
theorem dX5_event_155 : decode cX5_event 155 = .ok (.iconst 5, 1) := by decide +kernel
theorem dX5_event_156 : decode cX5_event 156 = .ok (.invokevirtual 136, 3) := by decide +kernel
theorem dX5_event_159 : decode cX5_event 159 = .ok (.iastore, 1) := by decide +kernel
theorem dX5_event_160 : decode cX5_event 160 = .ok (.return_, 1) := by decide +kernel
theorem dX5_event_161 : decode cX5_event 161 = .ok (.iload_n 2, 1) := by decide +kernel
theorem dX5_event_162 : decode cX5_event 162 = .ok (.bipush 98, 2) := by decide +kernel
theorem dX5_event_164 : decode cX5_event 164 = .ok (.if_icmp .ne 16, 3) := by decide +kernel
theorem dX5_event_167 : decode cX5_event 167 = .ok (.aload_n 0, 1) := by decide +kernel
theorem dX5_event_168 : decode cX5_event 168 = .ok (.invokevirtual 129, 3) := by decide +kernel
theorem dX5_event_171 : decode cX5_event 171 = .ok (.bipush 45, 2) := by decide +kernel
theorem dX5_event_173 : decode cX5_event 173 = .ok (.if_icmp .ne 7, 3) := by decide +kernel
theorem dX5_event_176 : decode cX5_event 176 = .ok (.iconst 1, 1) := by decide +kernel
theorem dX5_event_177 : decode cX5_event 177 = .ok (.goto 4, 3) := by decide +kernel
theorem dX5_event_180 : decode cX5_event 180 = .ok (.iconst 0, 1) := by decide +kernel
theorem dX5_event_181 : decode cX5_event 181 = .ok (.istore_n 3, 1) := by decide +kernel
theorem dX5_event_182 : decode cX5_event 182 = .ok (.aload_n 0, 1) := by decide +kernel
theorem dX5_event_183 : decode cX5_event 183 = .ok (.dup, 1) := by decide +kernel
theorem dX5_event_184 : decode cX5_event 184 = .ok (.getfield 126, 3) := by decide +kernel
theorem dX5_event_187 : decode cX5_event 187 = .ok (.iload_n 3, 1) := by decide +kernel
theorem dX5_event_188 : decode cX5_event 188 = .ok (.ifCond .eq 7, 3) := by decide +kernel
theorem dX5_event_191 : decode cX5_event 191 = .ok (.iconst 1, 1) := by decide +kernel
theorem dX5_event_192 : decode cX5_event 192 = .ok (.goto 4, 3) := by decide +kernel
theorem dX5_event_195 : decode cX5_event 195 = .ok (.iconst 0, 1) := by decide +kernel
theorem dX5_event_196 : decode cX5_event 196 = .ok (.iadd, 1) := by decide +kernel
theorem dX5_event_197 : decode cX5_event 197 = .ok (.putfield 126, 3) := by decide +kernel
theorem dX5_event_200 : decode cX5_event 200 = .ok (.aload_n 0, 1) := by decide +kernel
theorem dX5_event_201 : decode cX5_event 201 = .ok (.invokevirtual 143, 3) := by decide +kernel
theorem dX5_event_204 : decode cX5_event 204 = .ok (.istore 4, 2) := by decide +kernel
theorem dX5_event_206 : decode cX5_event 206 = .ok (.aload_n 0, 1) := by decide +kernel
theorem dX5_event_207 : decode cX5_event 207 = .ok (.getfield 35, 3) := by decide +kernel
theorem dX5_event_210 : decode cX5_event 210 = .ok (.iload_n 1, 1) := by decide +kernel
theorem dX5_event_211 : decode cX5_event 211 = .ok (.iload_n 3, 1) := by decide +kernel
theorem dX5_event_212 : decode cX5_event 212 = .ok (.ifCond .eq 9, 3) := by decide +kernel
theorem dX5_event_215 : decode cX5_event 215 = .ok (.iload 4, 2) := by decide +kernel
theorem dX5_event_217 : decode cX5_event 217 = .ok (.ineg, 1) := by decide +kernel
theorem dX5_event_218 : decode cX5_event 218 = .ok (.goto 5, 3) := by decide +kernel
theorem dX5_event_221 : decode cX5_event 221 = .ok (.iload 4, 2) := by decide +kernel
theorem dX5_event_223 : decode cX5_event 223 = .ok (.iastore, 1) := by decide +kernel
theorem dX5_event_224 : decode cX5_event 224 = .ok (.return_, 1) := by decide +kernel
theorem dX5_does_0 : decode cX5_does 0 = .ok (.aload_n 0, 1) := by decide +kernel
theorem dX5_does_1 : decode cX5_does 1 = .ok (.getfield 29, 3) := by decide +kernel
theorem dX5_does_4 : decode cX5_does 4 = .ok (.iload_n 1, 1) := by decide +kernel
theorem dX5_does_5 : decode cX5_does 5 = .ok (.iaload, 1) := by decide +kernel
theorem dX5_does_6 : decode cX5_does 6 = .ok (.bipush 98, 2) := by decide +kernel
theorem dX5_does_8 : decode cX5_does 8 = .ok (.if_icmp .ne 22, 3) := by decide +kernel
theorem dX5_does_11 : decode cX5_does 11 = .ok (.aload_n 0, 1) := by decide +kernel
theorem dX5_does_12 : decode cX5_does 12 = .ok (.aload_n 0, 1) := by decide +kernel
theorem dX5_does_13 : decode cX5_does 13 = .ok (.getfield 32, 3) := by decide +kernel
theorem dX5_does_16 : decode cX5_does 16 = .ok (.iload_n 1, 1) := by decide +kernel
theorem dX5_does_17 : decode cX5_does 17 = .ok (.iaload, 1) := by decide +kernel
theorem dX5_does_18 : decode cX5_does 18 = .ok (.aload_n 0, 1) := by decide +kernel
theorem dX5_does_19 : decode cX5_does 19 = .ok (.getfield 35, 3) := by decide +kernel
theorem dX5_does_22 : decode cX5_does 22 = .ok (.iload_n 1, 1) := by decide +kernel
theorem dX5_does_23 : decode cX5_does 23 = .ok (.iaload, 1) := by decide +kernel
theorem dX5_does_24 : decode cX5_does 24 = .ok (.invokevirtual 146, 3) := by decide +kernel
theorem dX5_does_27 : decode cX5_does 27 = .ok (.goto 115, 3) := by decide +kernel
theorem dX5_does_30 : decode cX5_does 30 = .ok (.aload_n 0, 1) := by decide +kernel
theorem dX5_does_31 : decode cX5_does 31 = .ok (.getfield 29, 3) := by decide +kernel
theorem dX5_does_34 : decode cX5_does 34 = .ok (.iload_n 1, 1) := by decide +kernel
theorem dX5_does_35 : decode cX5_does 35 = .ok (.iaload, 1) := by decide +kernel
theorem dX5_does_36 : decode cX5_does 36 = .ok (.bipush 97, 2) := by decide +kernel
theorem dX5_does_38 : decode cX5_does 38 = .ok (.if_icmp .ne 22, 3) := by decide +kernel
theorem dX5_does_41 : decode cX5_does 41 = .ok (.aload_n 0, 1) := by decide +kernel
theorem dX5_does_42 : decode cX5_does 42 = .ok (.aload_n 0, 1) := by decide +kernel
theorem dX5_does_43 : decode cX5_does 43 = .ok (.getfield 32, 3) := by decide +kernel
theorem dX5_does_46 : decode cX5_does 46 = .ok (.iload_n 1, 1) := by decide +kernel
theorem dX5_does_47 : decode cX5_does 47 = .ok (.iaload, 1) := by decide +kernel
theorem dX5_does_48 : decode cX5_does 48 = .ok (.aload_n 0, 1) := by decide +kernel
theorem dX5_does_49 : decode cX5_does 49 = .ok (.getfield 35, 3) := by decide +kernel
theorem dX5_does_52 : decode cX5_does 52 = .ok (.iload_n 1, 1) := by decide +kernel
theorem dX5_does_53 : decode cX5_does 53 = .ok (.iaload, 1) := by decide +kernel
theorem dX5_does_54 : decode cX5_does 54 = .ok (.invokevirtual 149, 3) := by decide +kernel
theorem dX5_does_57 : decode cX5_does 57 = .ok (.goto 85, 3) := by decide +kernel
theorem dX5_does_60 : decode cX5_does 60 = .ok (.aload_n 0, 1) := by decide +kernel
theorem dX5_does_61 : decode cX5_does 61 = .ok (.getfield 29, 3) := by decide +kernel
theorem dX5_does_64 : decode cX5_does 64 = .ok (.iload_n 1, 1) := by decide +kernel
theorem dX5_does_65 : decode cX5_does 65 = .ok (.iaload, 1) := by decide +kernel
theorem dX5_does_66 : decode cX5_does 66 = .ok (.bipush 103, 2) := by decide +kernel
theorem dX5_does_68 : decode cX5_does 68 = .ok (.if_icmp .ne 22, 3) := by decide +kernel
theorem dX5_does_71 : decode cX5_does 71 = .ok (.aload_n 0, 1) := by decide +kernel
theorem dX5_does_72 : decode cX5_does 72 = .ok (.aload_n 0, 1) := by decide +kernel
theorem dX5_does_73 : decode cX5_does 73 = .ok (.getfield 32, 3) := by decide +kernel
theorem dX5_does_76 : decode cX5_does 76 = .ok (.iload_n 1, 1) := by decide +kernel
theorem dX5_does_77 : decode cX5_does 77 = .ok (.iaload, 1) := by decide +kernel
theorem dX5_does_78 : decode cX5_does 78 = .ok (.aload_n 0, 1) := by decide +kernel
theorem dX5_does_79 : decode cX5_does 79 = .ok (.getfield 35, 3) := by decide +kernel
theorem dX5_does_82 : decode cX5_does 82 = .ok (.iload_n 1, 1) := by decide +kernel
theorem dX5_does_83 : decode cX5_does 83 = .ok (.iaload, 1) := by decide +kernel
theorem dX5_does_84 : decode cX5_does 84 = .ok (.invokevirtual 152, 3) := by decide +kernel
theorem dX5_does_87 : decode cX5_does 87 = .ok (.goto 55, 3) := by decide +kernel
theorem dX5_does_90 : decode cX5_does 90 = .ok (.aload_n 0, 1) := by decide +kernel
theorem dX5_does_91 : decode cX5_does 91 = .ok (.getfield 29, 3) := by decide +kernel
theorem dX5_does_94 : decode cX5_does 94 = .ok (.iload_n 1, 1) := by decide +kernel
theorem dX5_does_95 : decode cX5_does 95 = .ok (.iaload, 1) := by decide +kernel
theorem dX5_does_96 : decode cX5_does 96 = .ok (.bipush 106, 2) := by decide +kernel
theorem dX5_does_98 : decode cX5_does 98 = .ok (.if_icmp .ne 16, 3) := by decide +kernel
theorem dX5_does_101 : decode cX5_does 101 = .ok (.aload_n 0, 1) := by decide +kernel
theorem dX5_does_102 : decode cX5_does 102 = .ok (.aload_n 0, 1) := by decide +kernel
theorem dX5_does_103 : decode cX5_does 103 = .ok (.getfield 32, 3) := by decide +kernel
theorem dX5_does_106 : decode cX5_does 106 = .ok (.iload_n 1, 1) := by decide +kernel
theorem dX5_does_107 : decode cX5_does 107 = .ok (.iaload, 1) := by decide +kernel
theorem dX5_does_108 : decode cX5_does 108 = .ok (.invokevirtual 155, 3) := by decide +kernel
theorem dX5_does_111 : decode cX5_does 111 = .ok (.goto 31, 3) := by decide +kernel
theorem dX5_does_114 : decode cX5_does 114 = .ok (.aload_n 0, 1) := by decide +kernel
theorem dX5_does_115 : decode cX5_does 115 = .ok (.getfield 29, 3) := by decide +kernel
theorem dX5_does_118 : decode cX5_does 118 = .ok (.iload_n 1, 1) := by decide +kernel
theorem dX5_does_119 : decode cX5_does 119 = .ok (.iaload, 1) := by decide +kernel
theorem dX5_does_120 : decode cX5_does 120 = .ok (.bipush 108, 2) := by decide +kernel
theorem dX5_does_122 : decode cX5_does 122 = .ok (.if_icmp .ne 16, 3) := by decide +kernel
theorem dX5_does_125 : decode cX5_does 125 = .ok (.aload_n 0, 1) := by decide +kernel
theorem dX5_does_126 : decode cX5_does 126 = .ok (.aload_n 0, 1) := by decide +kernel
theorem dX5_does_127 : decode cX5_does 127 = .ok (.getfield 32, 3) := by decide +kernel
theorem dX5_does_130 : decode cX5_does 130 = .ok (.iload_n 1, 1) := by decide +kernel
theorem dX5_does_131 : decode cX5_does 131 = .ok (.iaload, 1) := by decide +kernel
theorem dX5_does_132 : decode cX5_does 132 = .ok (.invokevirtual 158, 3) := by decide +kernel
theorem dX5_does_135 : decode cX5_does 135 = .ok (.goto 7, 3) := by decide +kernel
theorem dX5_does_138 : decode cX5_does 138 = .ok (.aload_n 0, 1) := by decide +kernel
theorem dX5_does_139 : decode cX5_does 139 = .ok (.invokevirtual 161, 3) := by decide +kernel
theorem dX5_does_142 : decode cX5_does 142 = .ok (.istore_n 2, 1) := by decide +kernel
theorem dX5_does_143 : decode cX5_does 143 = .ok (.return_, 1) := by decide +kernel
theorem dX5_run_0 : decode cX5_run 0 = .ok (.aload_n 0, 1) := by decide +kernel
theorem dX5_run_1 : decode cX5_run 1 = .ok (.iconst 0, 1) := by decide +kernel
theorem dX5_run_2 : decode cX5_run 2 = .ok (.putfield 126, 3) := by decide +kernel
theorem dX5_run_5 : decode cX5_run 5 = .ok (.aload_n 0, 1) := by decide +kernel
theorem dX5_run_6 : decode cX5_run 6 = .ok (.iconst 0, 1) := by decide +kernel
theorem dX5_run_7 : decode cX5_run 7 = .ok (.putfield 132, 3) := by decide +kernel
theorem dX5_run_10 : decode cX5_run 10 = .ok (.iconst 0, 1) := by decide +kernel
theorem dX5_run_11 : decode cX5_run 11 = .ok (.istore_n 1, 1) := by decide +kernel
theorem dX5_run_12 : decode cX5_run 12 = .ok (.iconst 1, 1) := by decide +kernel
theorem dX5_run_13 : decode cX5_run 13 = .ok (.istore_n 2, 1) := by decide +kernel
theorem dX5_run_14 : decode cX5_run 14 = .ok (.iload_n 2, 1) := by decide +kernel
theorem dX5_run_15 : decode cX5_run 15 = .ok (.ifCond .eq 54, 3) := by decide +kernel
theorem dX5_run_18 : decode cX5_run 18 = .ok (.aload_n 0, 1) := by decide +kernel
theorem dX5_run_19 : decode cX5_run 19 = .ok (.iload_n 1, 1) := by decide +kernel
theorem dX5_run_20 : decode cX5_run 20 = .ok (.invokevirtual 164, 3) := by decide +kernel
theorem dX5_run_23 : decode cX5_run 23 = .ok (.iinc 1 1, 3) := by decide +kernel
theorem dX5_run_26 : decode cX5_run 26 = .ok (.aload_n 0, 1) := by decide +kernel
theorem dX5_run_27 : decode cX5_run 27 = .ok (.getfield 132, 3) := by decide +kernel
theorem dX5_run_30 : decode cX5_run 30 = .ok (.ifCond .ne 16, 3) := by decide +kernel
theorem dX5_run_33 : decode cX5_run 33 = .ok (.aload_n 0, 1) := by decide +kernel
theorem dX5_run_34 : decode cX5_run 34 = .ok (.invokevirtual 129, 3) := by decide +kernel
theorem dX5_run_37 : decode cX5_run 37 = .ok (.bipush 59, 2) := by decide +kernel
theorem dX5_run_39 : decode cX5_run 39 = .ok (.if_icmp .ne 7, 3) := by decide +kernel
theorem dX5_run_42 : decode cX5_run 42 = .ok (.iconst 1, 1) := by decide +kernel
theorem dX5_run_43 : decode cX5_run 43 = .ok (.goto 4, 3) := by decide +kernel
theorem dX5_run_46 : decode cX5_run 46 = .ok (.iconst 0, 1) := by decide +kernel
theorem dX5_run_47 : decode cX5_run 47 = .ok (.istore_n 2, 1) := by decide +kernel
theorem dX5_run_48 : decode cX5_run 48 = .ok (.aload_n 0, 1) := by decide +kernel
theorem dX5_run_49 : decode cX5_run 49 = .ok (.dup, 1) := by decide +kernel
theorem dX5_run_50 : decode cX5_run 50 = .ok (.getfield 126, 3) := by decide +kernel
theorem dX5_run_53 : decode cX5_run 53 = .ok (.iload_n 2, 1) := by decide +kernel
theorem dX5_run_54 : decode cX5_run 54 = .ok (.ifCond .eq 7, 3) := by decide +kernel
theorem dX5_run_57 : decode cX5_run 57 = .ok (.iconst 1, 1) := by decide +kernel
theorem dX5_run_58 : decode cX5_run 58 = .ok (.goto 4, 3) := by decide +kernel
theorem dX5_run_61 : decode cX5_run 61 = .ok (.iconst 0, 1) := by decide +kernel
theorem dX5_run_62 : decode cX5_run 62 = .ok (.iadd, 1) := by decide +kernel
theorem dX5_run_63 : decode cX5_run 63 = .ok (.putfield 126, 3) := by decide +kernel
theorem dX5_run_66 : decode cX5_run 66 = .ok (.goto (-52), 3) := by decide +kernel
theorem dX5_run_69 : decode cX5_run 69 = .ok (.aload_n 0, 1) := by decide +kernel
theorem dX5_run_70 : decode cX5_run 70 = .ok (.dup, 1) := by decide +kernel
theorem dX5_run_71 : decode cX5_run 71 = .ok (.getfield 132, 3) := by decide +kernel
theorem dX5_run_74 : decode cX5_run 74 = .ok (.aload_n 0, 1) := by decide +kernel
theorem dX5_run_75 : decode cX5_run 75 = .ok (.getfield 126, 3) := by decide +kernel
theorem dX5_run_78 : decode cX5_run 78 = .ok (.aload_n 0, 1) := by decide +kernel
theorem dX5_run_79 : decode cX5_run 79 = .ok (.getfield 123, 3) := by decide +kernel
theorem dX5_run_82 : decode cX5_run 82 = .ok (.if_icmp .ge 7, 3) := by decide +kernel
theorem dX5_run_85 : decode cX5_run 85 = .ok (.iconst 1, 1) := by decide +kernel
theorem dX5_run_86 : decode cX5_run 86 = .ok (.goto 4, 3) := by decide +kernel
theorem dX5_run_89 : decode cX5_run 89 = .ok (.iconst 0, 1) := by decide +kernel
theorem dX5_run_90 : decode cX5_run 90 = .ok (.ior, 1) := by decide +kernel
theorem dX5_run_91 : decode cX5_run 91 = .ok (.putfield 132, 3) := by decide +kernel
theorem dX5_run_94 : decode cX5_run 94 = .ok (.aload_n 0, 1) := by decide +kernel
theorem dX5_run_95 : decode cX5_run 95 = .ok (.iconst 0, 1) := by decide +kernel
theorem dX5_run_96 : decode cX5_run 96 = .ok (.putfield 123, 3) := by decide +kernel
theorem dX5_run_99 : decode cX5_run 99 = .ok (.aload_n 0, 1) := by decide +kernel
theorem dX5_run_100 : decode cX5_run 100 = .ok (.getfield 132, 3) := by decide +kernel
theorem dX5_run_103 : decode cX5_run 103 = .ok (.ifCond .eq 17, 3) := by decide +kernel
theorem dX5_run_106 : decode cX5_run 106 = .ok (.aload_n 0, 1) := by decide +kernel
theorem dX5_run_107 : decode cX5_run 107 = .ok (.aload_n 0, 1) := by decide +kernel
theorem dX5_run_108 : decode cX5_run 108 = .ok (.getfield 126, 3) := by decide +kernel
theorem dX5_run_111 : decode cX5_run 111 = .ok (.putfield 22, 3) := by decide +kernel
theorem dX5_run_114 : decode cX5_run 114 = .ok (.aload_n 0, 1) := by decide +kernel
theorem dX5_run_115 : decode cX5_run 115 = .ok (.iconst 1, 1) := by decide +kernel
theorem dX5_run_116 : decode cX5_run 116 = .ok (.invokevirtual 59, 3) := by decide +kernel
theorem dX5_run_119 : decode cX5_run 119 = .ok (.ireturn, 1) := by decide +kernel
theorem dX5_run_120 : decode cX5_run 120 = .ok (.aload_n 0, 1) := by decide +kernel
theorem dX5_run_121 : decode cX5_run 121 = .ok (.getfield 9, 3) := by decide +kernel
theorem dX5_run_124 : decode cX5_run 124 = .ok (.aload_n 0, 1) := by decide +kernel
theorem dX5_run_125 : decode cX5_run 125 = .ok (.getfield 16, 3) := by decide +kernel
theorem dX5_run_128 : decode cX5_run 128 = .ok (.invokestatic 167, 3) := by decide +kernel
theorem dX5_run_131 : decode cX5_run 131 = .ok (.iconst 0, 1) := by decide +kernel
theorem dX5_run_132 : decode cX5_run 132 = .ok (.istore_n 3, 1) := by decide +kernel
theorem dX5_run_133 : decode cX5_run 133 = .ok (.iload_n 3, 1) := by decide +kernel
theorem dX5_run_134 : decode cX5_run 134 = .ok (.iload_n 1, 1) := by decide +kernel
theorem dX5_run_135 : decode cX5_run 135 = .ok (.if_icmp .ge 41, 3) := by decide +kernel
theorem dX5_run_138 : decode cX5_run 138 = .ok (.aload_n 0, 1) := by decide +kernel
theorem dX5_run_139 : decode cX5_run 139 = .ok (.iload_n 3, 1) := by decide +kernel
theorem dX5_run_140 : decode cX5_run 140 = .ok (.invokevirtual 171, 3) := by decide +kernel
theorem dX5_run_143 : decode cX5_run 143 = .ok (.aload_n 0, 1) := by decide +kernel
theorem dX5_run_144 : decode cX5_run 144 = .ok (.getfield 38, 3) := by decide +kernel
theorem dX5_run_147 : decode cX5_run 147 = .ok (.ifCond .ne 6, 3) := by decide +kernel
theorem dX5_run_150 : decode cX5_run 150 = .ok (.goto 20, 3) := by decide +kernel
theorem dX5_run_153 : decode cX5_run 153 = .ok (.aload_n 0, 1) := by decide +kernel
theorem dX5_run_154 : decode cX5_run 154 = .ok (.getfield 16, 3) := by decide +kernel
theorem dX5_run_157 : decode cX5_run 157 = .ok (.aload_n 0, 1) := by decide +kernel
theorem dX5_run_158 : decode cX5_run 158 = .ok (.getfield 9, 3) := by decide +kernel
theorem dX5_run_161 : decode cX5_run 161 = .ok (.invokestatic 167, 3) := by decide +kernel
theorem dX5_run_164 : decode cX5_run 164 = .ok (.aload_n 0, 1) := by decide +kernel
theorem dX5_run_165 : decode cX5_run 165 = .ok (.iconst 2, 1) := by decide +kernel
theorem dX5_run_166 : decode cX5_run 166 = .ok (.invokevirtual 59, 3) := by decide +kernel
theorem dX5_run_169 : decode cX5_run 169 = .ok (.ireturn, 1) := by decide +kernel
theorem dX5_run_170 : decode cX5_run 170 = .ok (.iinc 3 1, 3) := by decide +kernel
theorem dX5_run_173 : decode cX5_run 173 = .ok (.goto (-40), 3) := by decide +kernel
theorem dX5_run_176 : decode cX5_run 176 = .ok (.aload_n 0, 1) := by decide +kernel
theorem dX5_run_177 : decode cX5_run 177 = .ok (.iconst 0, 1) := by decide +kernel
theorem dX5_run_178 : decode cX5_run 178 = .ok (.putfield 38, 3) := by decide +kernel
theorem dX5_run_181 : decode cX5_run 181 = .ok (.iload_n 1, 1) := by decide +kernel
theorem dX5_run_182 : decode cX5_run 182 = .ok (.ireturn, 1) := by decide +kernel
theorem dX5_errorPosition_0 : decode cX5_errorPosition 0 = .ok (.aload_n 0, 1) := by decide +kernel
theorem dX5_errorPosition_1 : decode cX5_errorPosition 1 = .ok (.aload_n 0, 1) := by decide +kernel
theorem dX5_errorPosition_2 : decode cX5_errorPosition 2 = .ok (.getfield 22, 3) := by decide +kernel
theorem dX5_errorPosition_5 : decode cX5_errorPosition 5 = .ok (.ifCond .ge 7, 3) := by decide +kernel
theorem dX5_errorPosition_8 : decode cX5_errorPosition 8 = .ok (.iconst 1, 1) := by decide +kernel
theorem dX5_errorPosition_9 : decode cX5_errorPosition 9 = .ok (.goto 4, 3) := by decide +kernel
theorem dX5_errorPosition_12 : decode cX5_errorPosition 12 = .ok (.iconst 0, 1) := by decide +kernel
theorem dX5_errorPosition_13 : decode cX5_errorPosition 13 = .ok (.putfield 38, 3) := by decide +kernel
theorem dX5_errorPosition_16 : decode cX5_errorPosition 16 = .ok (.aload_n 0, 1) := by decide +kernel
theorem dX5_errorPosition_17 : decode cX5_errorPosition 17 = .ok (.getfield 22, 3) := by decide +kernel
theorem dX5_errorPosition_20 : decode cX5_errorPosition 20 = .ok (.ifCond .ge 7, 3) := by decide +kernel
theorem dX5_errorPosition_23 : decode cX5_errorPosition 23 = .ok (.iconst 0, 1) := by decide +kernel
theorem dX5_errorPosition_24 : decode cX5_errorPosition 24 = .ok (.goto 7, 3) := by decide +kernel
theorem dX5_errorPosition_27 : decode cX5_errorPosition 27 = .ok (.aload_n 0, 1) := by decide +kernel
theorem dX5_errorPosition_28 : decode cX5_errorPosition 28 = .ok (.getfield 22, 3) := by decide +kernel
theorem dX5_errorPosition_31 : decode cX5_errorPosition 31 = .ok (.ireturn, 1) := by decide +kernel
theorem dX5_saveSnapshot_0 : decode cX5_saveSnapshot 0 = .ok (.aload_n 0, 1) := by decide +kernel
theorem dX5_saveSnapshot_1 : decode cX5_saveSnapshot 1 = .ok (.iconst 0, 1) := by decide +kernel
theorem dX5_saveSnapshot_2 : decode cX5_saveSnapshot 2 = .ok (.putfield 38, 3) := by decide +kernel
theorem dX5_saveSnapshot_5 : decode cX5_saveSnapshot 5 = .ok (.aload_n 0, 1) := by decide +kernel
theorem dX5_saveSnapshot_6 : decode cX5_saveSnapshot 6 = .ok (.getfield 9, 3) := by decide +kernel
theorem dX5_saveSnapshot_9 : decode cX5_saveSnapshot 9 = .ok (.aload_n 0, 1) := by decide +kernel
theorem dX5_saveSnapshot_10 : decode cX5_saveSnapshot 10 = .ok (.getfield 13, 3) := by decide +kernel
theorem dX5_saveSnapshot_13 : decode cX5_saveSnapshot 13 = .ok (.invokestatic 167, 3) := by decide +kernel
theorem dX5_saveSnapshot_16 : decode cX5_saveSnapshot 16 = .ok (.aload_n 0, 1) := by decide +kernel
theorem dX5_saveSnapshot_17 : decode cX5_saveSnapshot 17 = .ok (.iconst 1, 1) := by decide +kernel
theorem dX5_saveSnapshot_18 : decode cX5_saveSnapshot 18 = .ok (.putfield 174, 3) := by decide +kernel
theorem dX5_saveSnapshot_21 : decode cX5_saveSnapshot 21 = .ok (.aload_n 0, 1) := by decide +kernel
theorem dX5_saveSnapshot_22 : decode cX5_saveSnapshot 22 = .ok (.getfield 9, 3) := by decide +kernel
theorem dX5_saveSnapshot_25 : decode cX5_saveSnapshot 25 = .ok (.bipush 44, 2) := by decide +kernel
theorem dX5_saveSnapshot_27 : decode cX5_saveSnapshot 27 = .ok (.iaload, 1) := by decide +kernel
theorem dX5_saveSnapshot_28 : decode cX5_saveSnapshot 28 = .ok (.ireturn, 1) := by decide +kernel
theorem dX5_restoreSnapshot_0 : decode cX5_restoreSnapshot 0 = .ok (.aload_n 0, 1) := by decide +kernel
theorem dX5_restoreSnapshot_1 : decode cX5_restoreSnapshot 1 = .ok (.aload_n 0, 1) := by decide +kernel
theorem dX5_restoreSnapshot_2 : decode cX5_restoreSnapshot 2 = .ok (.getfield 174, 3) := by decide +kernel
theorem dX5_restoreSnapshot_5 : decode cX5_restoreSnapshot 5 = .ok (.ifCond .eq 7, 3) := by decide +kernel
theorem dX5_restoreSnapshot_8 : decode cX5_restoreSnapshot 8 = .ok (.iconst 0, 1) := by decide +kernel
theorem dX5_restoreSnapshot_9 : decode cX5_restoreSnapshot 9 = .ok (.goto 4, 3) := by decide +kernel
theorem dX5_restoreSnapshot_12 : decode cX5_restoreSnapshot 12 = .ok (.iconst 1, 1) := by decide +kernel
theorem dX5_restoreSnapshot_13 : decode cX5_restoreSnapshot 13 = .ok (.putfield 38, 3) := by decide +kernel
theorem dX5_restoreSnapshot_16 : decode cX5_restoreSnapshot 16 = .ok (.aload_n 0, 1) := by decide +kernel
theorem dX5_restoreSnapshot_17 : decode cX5_restoreSnapshot 17 = .ok (.getfield 174, 3) := by decide +kernel
theorem dX5_restoreSnapshot_20 : decode cX5_restoreSnapshot 20 = .ok (.ifCond .ne 5, 3) := by decide +kernel
theorem dX5_restoreSnapshot_23 : decode cX5_restoreSnapshot 23 = .ok (.iconst 0, 1) := by decide +kernel
theorem dX5_restoreSnapshot_24 : decode cX5_restoreSnapshot 24 = .ok (.ireturn, 1) := by decide +kernel
theorem dX5_restoreSnapshot_25 : decode cX5_restoreSnapshot 25 = .ok (.aload_n 0, 1) := by decide +kernel
theorem dX5_restoreSnapshot_26 : decode cX5_restoreSnapshot 26 = .ok (.getfield 13, 3) := by decide +kernel
theorem dX5_restoreSnapshot_29 : decode cX5_restoreSnapshot 29 = .ok (.aload_n 0, 1) := by decide +kernel
theorem dX5_restoreSnapshot_30 : decode cX5_restoreSnapshot 30 = .ok (.getfield 9, 3) := by decide +kernel
theorem dX5_restoreSnapshot_33 : decode cX5_restoreSnapshot 33 = .ok (.invokestatic 167, 3) := by decide +kernel
theorem dX5_restoreSnapshot_36 : decode cX5_restoreSnapshot 36 = .ok (.aload_n 0, 1) := by decide +kernel
theorem dX5_restoreSnapshot_37 : decode cX5_restoreSnapshot 37 = .ok (.getfield 9, 3) := by decide +kernel
theorem dX5_restoreSnapshot_40 : decode cX5_restoreSnapshot 40 = .ok (.bipush 44, 2) := by decide +kernel
theorem dX5_restoreSnapshot_42 : decode cX5_restoreSnapshot 42 = .ok (.iaload, 1) := by decide +kernel
theorem dX5_restoreSnapshot_43 : decode cX5_restoreSnapshot 43 = .ok (.ireturn, 1) := by decide +kernel
