theorem dX0_init_0 : decode cX0_init 0 = .ok (.aload_n 0, 1) := by decide +kernel
theorem dX0_init_1 : decode cX0_init 1 = .ok (.invokespecial 3, 3) := by decide +kernel
theorem dX0_init_4 : decode cX0_init 4 = .ok (.aload_n 0, 1) := by decide +kernel
theorem dX0_init_5 : decode cX0_init 5 = .ok (.bipush 21, 2) := by decide +kernel
theorem dX0_init_7 : decode cX0_init 7 = .ok (.newarray .int, 2) := by decide +kernel
theorem dX0_init_9 : decode cX0_init 9 = .ok (.putfield 9, 3) := by decide +kernel
theorem dX0_init_12 : decode cX0_init 12 = .ok (.aload_n 0, 1) := by decide +kernel
theorem dX0_init_13 : decode cX0_init 13 = .ok (.bipush 21, 2) := by decide +kernel
theorem dX0_init_15 : decode cX0_init 15 = .ok (.newarray .int, 2) := by decide +kernel
theorem dX0_init_17 : decode cX0_init 17 = .ok (.putfield 15, 3) := by decide +kernel
theorem dX0_init_20 : decode cX0_init 20 = .ok (.aload_n 0, 1) := by decide +kernel
theorem dX0_init_21 : decode cX0_init 21 = .ok (.new 18, 3) := by decide +kernel
theorem dX0_init_24 : decode cX0_init 24 = .ok (.dup, 1) := by decide +kernel
theorem dX0_init_25 : decode cX0_init 25 = .ok (.invokespecial 20, 3) := by decide +kernel
theorem dX0_init_28 : decode cX0_init 28 = .ok (.putfield 21, 3) := by decide +kernel
theorem dX0_init_31 : decode cX0_init 31 = .ok (.aload_n 0, 1) := by decide +kernel
theorem dX0_init_32 : decode cX0_init 32 = .ok (.bipush 6, 2) := by decide +kernel
theorem dX0_init_34 : decode cX0_init 34 = .ok (.anewarray 25, 3) := by decide +kernel
theorem dX0_init_37 : decode cX0_init 37 = .ok (.putfield 27, 3) := by decide +kernel
theorem dX0_init_40 : decode cX0_init 40 = .ok (.aload_n 0, 1) := by decide +kernel
theorem dX0_init_41 : decode cX0_init 41 = .ok (.iconst 0, 1) := by decide +kernel
theorem dX0_init_42 : decode cX0_init 42 = .ok (.putfield 31, 3) := by decide +kernel
theorem dX0_init_45 : decode cX0_init 45 = .ok (.aload_n 0, 1) := by decide +kernel
theorem dX0_init_46 : decode cX0_init 46 = .ok (.iconst 0, 1) := by decide +kernel
theorem dX0_init_47 : decode cX0_init 47 = .ok (.putfield 35, 3) := by decide +kernel
theorem dX0_init_50 : decode cX0_init 50 = .ok (.aload_n 0, 1) := by decide +kernel
theorem dX0_init_51 : decode cX0_init 51 = .ok (.iconst 0, 1) := by decide +kernel
theorem dX0_init_52 : decode cX0_init 52 = .ok (.putfield 38, 3) := by decide +kernel
theorem dX0_init_55 : decode cX0_init 55 = .ok (.aload_n 0, 1) := by decide +kernel
theorem dX0_init_56 : decode cX0_init 56 = .ok (.iconst 0, 1) := by decide +kernel
theorem dX0_init_57 : decode cX0_init 57 = .ok (.putfield 41, 3) := by decide +kernel
theorem dX0_init_60 : decode cX0_init 60 = .ok (.iconst 0, 1) := by decide +kernel
theorem dX0_init_61 : decode cX0_init 61 = .ok (.istore_n 1, 1) := by decide +kernel
theorem dX0_init_62 : decode cX0_init 62 = .ok (.iload_n 1, 1) := by decide +kernel
theorem dX0_init_63 : decode cX0_init 63 = .ok (.bipush 6, 2) := by decide +kernel
theorem dX0_init_65 : decode cX0_init 65 = .ok (.if_icmp .ge 23, 3) := by decide +kernel
theorem dX0_init_68 : decode cX0_init 68 = .ok (.aload_n 0, 1) := by decide +kernel
theorem dX0_init_69 : decode cX0_init 69 = .ok (.getfield 27, 3) := by decide +kernel
theorem dX0_init_72 : decode cX0_init 72 = .ok (.iload_n 1, 1) := by decide +kernel
theorem dX0_init_73 : decode cX0_init 73 = .ok (.new 25, 3) := by decide +kernel
theorem dX0_init_76 : decode cX0_init 76 = .ok (.dup, 1) := by decide +kernel
theorem dX0_init_77 : decode cX0_init 77 = .ok (.iload_n 1, 1) := by decide +kernel
theorem dX0_init_78 : decode cX0_init 78 = .ok (.invokespecial 44, 3) := by decide +kernel
theorem dX0_init_81 : decode cX0_init 81 = .ok (.aastore, 1) := by decide +kernel
theorem dX0_init_82 : decode cX0_init 82 = .ok (.iinc 1 1, 3) := by decide +kernel
theorem dX0_init_85 : decode cX0_init 85 = .ok (.goto (-23), 3) := by decide +kernel
theorem dX0_init_88 : decode cX0_init 88 = .ok (.aload_n 0, 1) := by decide +kernel
theorem dX0_init_89 : decode cX0_init 89 = .ok (.iconst 3, 1) := by decide +kernel
theorem dX0_init_90 : decode cX0_init 90 = .ok (.invokevirtual 47, 3) := by decide +kernel
theorem dX0_init_93 : decode cX0_init 93 = .ok (.return_, 1) := by decide +kernel
theorem dX0_startAnew_0 : decode cX0_startAnew 0 = .ok (.aload_n 0, 1) := by decide +kernel
theorem dX0_startAnew_1 : decode cX0_startAnew 1 = .ok (.getfield 21, 3) := by decide +kernel
theorem dX0_startAnew_4 : decode cX0_startAnew 4 = .ok (.iconst 0, 1) := by decide +kernel
theorem dX0_startAnew_5 : decode cX0_startAnew 5 = .ok (.putfield 50, 3) := by decide +kernel
theorem dX0_startAnew_8 : decode cX0_startAnew 8 = .ok (.iconst 0, 1) := by decide +kernel
theorem dX0_startAnew_9 : decode cX0_startAnew 9 = .ok (.istore_n 2, 1) := by decide +kernel
theorem dX0_startAnew_10 : decode cX0_startAnew 10 = .ok (.iload_n 2, 1) := by decide +kernel
theorem dX0_startAnew_11 : decode cX0_startAnew 11 = .ok (.bipush 6, 2) := by decide +kernel
theorem dX0_startAnew_13 : decode cX0_startAnew 13 = .ok (.if_icmp .ge 18, 3) := by decide +kernel
theorem dX0_startAnew_16 : decode cX0_startAnew 16 = .ok (.aload_n 0, 1) := by decide +kernel
theorem dX0_startAnew_17 : decode cX0_startAnew 17 = .ok (.getfield 27, 3) := by decide +kernel
theorem dX0_startAnew_20 : decode cX0_startAnew 20 = .ok (.iload_n 2, 1) := by decide +kernel
theorem dX0_startAnew_21 : decode cX0_startAnew 21 = .ok (.aaload, 1) := by decide +kernel
theorem dX0_startAnew_22 : decode cX0_startAnew 22 = .ok (.invokevirtual 53, 3) := by decide +kernel
theorem dX0_startAnew_25 : decode cX0_startAnew 25 = .ok (.iinc 2 1, 3) := by decide +kernel
theorem dX0_startAnew_28 : decode cX0_startAnew 28 = .ok (.goto (-18), 3) := by decide +kernel
theorem dX0_startAnew_31 : decode cX0_startAnew 31 = .ok (.aload_n 0, 1) := by decide +kernel
theorem dX0_startAnew_32 : decode cX0_startAnew 32 = .ok (.iconst 0, 1) := by decide +kernel
theorem dX0_startAnew_33 : decode cX0_startAnew 33 = .ok (.putfield 31, 3) := by decide +kernel
theorem dX0_startAnew_36 : decode cX0_startAnew 36 = .ok (.aload_n 0, 1) := by decide +kernel
theorem dX0_startAnew_37 : decode cX0_startAnew 37 = .ok (.getfield 9, 3) := by decide +kernel
theorem dX0_startAnew_40 : decode cX0_startAnew 40 = .ok (.iconst 0, 1) := by decide +kernel
theorem dX0_startAnew_41 : decode cX0_startAnew 41 = .ok (.iload_n 1, 1) := by decide +kernel
theorem dX0_startAnew_42 : decode cX0_startAnew 42 = .ok (.iastore, 1) := by decide +kernel
theorem dX0_startAnew_43 : decode cX0_startAnew 43 = .ok (.aload_n 0, 1) := by decide +kernel
theorem dX0_startAnew_44 : decode cX0_startAnew 44 = .ok (.iload_n 1, 1) := by decide +kernel
theorem dX0_startAnew_45 : decode cX0_startAnew 45 = .ok (.putfield 35, 3) := by decide +kernel
theorem dX0_startAnew_48 : decode cX0_startAnew 48 = .ok (.aload_n 0, 1) := by decide +kernel
theorem dX0_startAnew_49 : decode cX0_startAnew 49 = .ok (.iconst 0, 1) := by decide +kernel
theorem dX0_startAnew_50 : decode cX0_startAnew 50 = .ok (.putfield 38, 3) := by decide +kernel
theorem dX0_startAnew_53 : decode cX0_startAnew 53 = .ok (.aload_n 0, 1) := by decide +kernel
theorem dX0_startAnew_54 : decode cX0_startAnew 54 = .ok (.iconst 0, 1) := by decide +kernel
theorem dX0_startAnew_55 : decode cX0_startAnew 55 = .ok (.putfield 41, 3) := by decide +kernel
theorem dX0_startAnew_58 : decode cX0_startAnew 58 = .ok (.return_, 1) := by decide +kernel
theorem dX0_copyFrom_0 : decode cX0_copyFrom 0 = .ok (.aload_n 1, 1) := by decide +kernel
theorem dX0_copyFrom_1 : decode cX0_copyFrom 1 = .ok (.getfield 9, 3) := by decide +kernel
theorem dX0_copyFrom_4 : decode cX0_copyFrom 4 = .ok (.aload_n 0, 1) := by decide +kernel
theorem dX0_copyFrom_5 : decode cX0_copyFrom 5 = .ok (.getfield 9, 3) := by decide +kernel
theorem dX0_copyFrom_8 : decode cX0_copyFrom 8 = .ok (.invokestatic 55, 3) := by decide +kernel
theorem dX0_copyFrom_11 : decode cX0_copyFrom 11 = .ok (.aload_n 1, 1) := by decide +kernel
theorem dX0_copyFrom_12 : decode cX0_copyFrom 12 = .ok (.getfield 15, 3) := by decide +kernel
theorem dX0_copyFrom_15 : decode cX0_copyFrom 15 = .ok (.aload_n 0, 1) := by decide +kernel
theorem dX0_copyFrom_16 : decode cX0_copyFrom 16 = .ok (.getfield 15, 3) := by decide +kernel
theorem dX0_copyFrom_19 : decode cX0_copyFrom 19 = .ok (.invokestatic 55, 3) := by decide +kernel
theorem dX0_copyFrom_22 : decode cX0_copyFrom 22 = .ok (.aload_n 0, 1) := by decide +kernel
theorem dX0_copyFrom_23 : decode cX0_copyFrom 23 = .ok (.getfield 21, 3) := by decide +kernel
theorem dX0_copyFrom_26 : decode cX0_copyFrom 26 = .ok (.aload_n 1, 1) := by decide +kernel
theorem dX0_copyFrom_27 : decode cX0_copyFrom 27 = .ok (.getfield 21, 3) := by decide +kernel
theorem dX0_copyFrom_30 : decode cX0_copyFrom 30 = .ok (.invokevirtual 59, 3) := by decide +kernel
theorem dX0_copyFrom_33 : decode cX0_copyFrom 33 = .ok (.iconst 0, 1) := by decide +kernel
theorem dX0_copyFrom_34 : decode cX0_copyFrom 34 = .ok (.istore_n 2, 1) := by decide +kernel
theorem dX0_copyFrom_35 : decode cX0_copyFrom 35 = .ok (.iload_n 2, 1) := by decide +kernel
theorem dX0_copyFrom_36 : decode cX0_copyFrom 36 = .ok (.bipush 6, 2) := by decide +kernel
theorem dX0_copyFrom_38 : decode cX0_copyFrom 38 = .ok (.if_icmp .ge 24, 3) := by decide +kernel
theorem dX0_copyFrom_41 : decode cX0_copyFrom 41 = .ok (.aload_n 0, 1) := by decide +kernel
theorem dX0_copyFrom_42 : decode cX0_copyFrom 42 = .ok (.getfield 27, 3) := by decide +kernel
theorem dX0_copyFrom_45 : decode cX0_copyFrom 45 = .ok (.iload_n 2, 1) := by decide +kernel
theorem dX0_copyFrom_46 : decode cX0_copyFrom 46 = .ok (.aaload, 1) := by decide +kernel
theorem dX0_copyFrom_47 : decode cX0_copyFrom 47 = .ok (.aload_n 1, 1) := by decide +kernel
theorem dX0_copyFrom_48 : decode cX0_copyFrom 48 = .ok (.getfield 27, 3) := by decide +kernel
theorem dX0_copyFrom_51 : decode cX0_copyFrom 51 = .ok (.iload_n 2, 1) := by decide +kernel
theorem dX0_copyFrom_52 : decode cX0_copyFrom 52 = .ok (.aaload, 1) := by decide +kernel
theorem dX0_copyFrom_53 : decode cX0_copyFrom 53 = .ok (.invokevirtual 63, 3) := by decide +kernel
theorem dX0_copyFrom_56 : decode cX0_copyFrom 56 = .ok (.iinc 2 1, 3) := by decide +kernel
theorem dX0_copyFrom_59 : decode cX0_copyFrom 59 = .ok (.goto (-24), 3) := by decide +kernel
theorem dX0_copyFrom_62 : decode cX0_copyFrom 62 = .ok (.aload_n 0, 1) := by decide +kernel
theorem dX0_copyFrom_63 : decode cX0_copyFrom 63 = .ok (.aload_n 1, 1) := by decide +kernel
theorem dX0_copyFrom_64 : decode cX0_copyFrom 64 = .ok (.getfield 31, 3) := by decide +kernel
theorem dX0_copyFrom_67 : decode cX0_copyFrom 67 = .ok (.putfield 31, 3) := by decide +kernel
theorem dX0_copyFrom_70 : decode cX0_copyFrom 70 = .ok (.aload_n 0, 1) := by decide +kernel
theorem dX0_copyFrom_71 : decode cX0_copyFrom 71 = .ok (.aload_n 1, 1) := by decide +kernel
theorem dX0_copyFrom_72 : decode cX0_copyFrom 72 = .ok (.getfield 35, 3) := by decide +kernel
theorem dX0_copyFrom_75 : decode cX0_copyFrom 75 = .ok (.putfield 35, 3) := by decide +kernel
theorem dX0_copyFrom_78 : decode cX0_copyFrom 78 = .ok (.aload_n 0, 1) := by decide +kernel
theorem dX0_copyFrom_79 : decode cX0_copyFrom 79 = .ok (.aload_n 1, 1) := by decide +kernel
theorem dX0_copyFrom_80 : decode cX0_copyFrom 80 = .ok (.getfield 38, 3) := by decide +kernel
theorem dX0_copyFrom_83 : decode cX0_copyFrom 83 = .ok (.putfield 38, 3) := by decide +kernel
theorem dX0_copyFrom_86 : decode cX0_copyFrom 86 = .ok (.aload_n 0, 1) := by decide +kernel
theorem dX0_copyFrom_87 : decode cX0_copyFrom 87 = .ok (.aload_n 1, 1) := by decide +kernel
theorem dX0_copyFrom_88 : decode cX0_copyFrom 88 = .ok (.getfield 41, 3) := by decide +kernel
theorem dX0_copyFrom_91 : decode cX0_copyFrom 91 = .ok (.putfield 41, 3) := by decide +kernel
theorem dX0_copyFrom_94 : decode cX0_copyFrom 94 = .ok (.return_, 1) := by decide +kernel
theorem dX0_perform_0 : decode cX0_perform 0 = .ok (.aload_n 0, 1) := by decide +kernel
theorem dX0_perform_1 : decode cX0_perform 1 = .ok (.iload_n 1, 1) := by decide +kernel
theorem dX0_perform_2 : decode cX0_perform 2 = .ok (.iload_n 2, 1) := by decide +kernel
theorem dX0_perform_3 : decode cX0_perform 3 = .ok (.iload_n 3, 1) := by decide +kernel
theorem dX0_perform_4 : decode cX0_perform 4 = .ok (.invokevirtual 66, 3) := by decide +kernel
theorem dX0_perform_7 : decode cX0_perform 7 = .ok (.ifCond .ne 5, 3) := by decide +kernel
theorem dX0_perform_10 : decode cX0_perform 10 = .ok (.iconst 0, 1) := by decide +kernel
theorem dX0_perform_11 : decode cX0_perform 11 = .ok (.ireturn, 1) := by decide +kernel
theorem dX0_perform_12 : decode cX0_perform 12 = .ok (.iload_n 1, 1) := by decide +kernel
theorem dX0_perform_13 : decode cX0_perform 13 = .ok (.tableswitch 111 97 108 #[73, 63, 111, 111, 111, 111, 83, 111, 111, 93, 111, 102], 63) := by decide +kernel
theorem dX0_perform_76 : decode cX0_perform 76 = .ok (.aload_n 0, 1) := by decide +kernel
theorem dX0_perform_77 : decode cX0_perform 77 = .ok (.iload_n 2, 1) := by decide +kernel
theorem dX0_perform_78 : decode cX0_perform 78 = .ok (.iload_n 3, 1) := by decide +kernel
theorem dX0_perform_79 : decode cX0_perform 79 = .ok (.invokevirtual 70, 3) := by decide +kernel
theorem dX0_perform_82 : decode cX0_perform 82 = .ok (.pop, 1) := by decide +kernel
theorem dX0_perform_83 : decode cX0_perform 83 = .ok (.goto 46, 3) := by decide +kernel
theorem dX0_perform_86 : decode cX0_perform 86 = .ok (.aload_n 0, 1) := by decide +kernel
theorem dX0_perform_87 : decode cX0_perform 87 = .ok (.iload_n 2, 1) := by decide +kernel
theorem dX0_perform_88 : decode cX0_perform 88 = .ok (.iload_n 3, 1) := by decide +kernel
theorem dX0_perform_89 : decode cX0_perform 89 = .ok (.invokevirtual 74, 3) := by decide +kernel
theorem dX0_perform_92 : decode cX0_perform 92 = .ok (.pop, 1) := by decide +kernel
theorem dX0_perform_93 : decode cX0_perform 93 = .ok (.goto 36, 3) := by decide +kernel
theorem dX0_perform_96 : decode cX0_perform 96 = .ok (.aload_n 0, 1) := by decide +kernel
theorem dX0_perform_97 : decode cX0_perform 97 = .ok (.iload_n 2, 1) := by decide +kernel
theorem dX0_perform_98 : decode cX0_perform 98 = .ok (.iload_n 3, 1) := by decide +kernel
theorem dX0_perform_99 : decode cX0_perform 99 = .ok (.invokevirtual 77, 3) := by decide +kernel
theorem dX0_perform_102 : decode cX0_perform 102 = .ok (.pop, 1) := by decide +kernel
theorem dX0_perform_103 : decode cX0_perform 103 = .ok (.goto 26, 3) := by decide +kernel
theorem dX0_perform_106 : decode cX0_perform 106 = .ok (.aload_n 0, 1) := by decide +kernel
theorem dX0_perform_107 : decode cX0_perform 107 = .ok (.iload_n 2, 1) := by decide +kernel
theorem dX0_perform_108 : decode cX0_perform 108 = .ok (.invokevirtual 80, 3) := by decide +kernel
theorem dX0_perform_111 : decode cX0_perform 111 = .ok (.pop, 1) := by decide +kernel
theorem dX0_perform_112 : decode cX0_perform 112 = .ok (.goto 17, 3) := by decide +kernel
theorem dX0_perform_115 : decode cX0_perform 115 = .ok (.aload_n 0, 1) := by decide +kernel
theorem dX0_perform_116 : decode cX0_perform 116 = .ok (.iload_n 2, 1) := by decide +kernel
theorem dX0_perform_117 : decode cX0_perform 117 = .ok (.invokevirtual 84, 3) := by decide +kernel
theorem dX0_perform_120 : decode cX0_perform 120 = .ok (.pop, 1) := by decide +kernel
theorem dX0_perform_121 : decode cX0_perform 121 = .ok (.goto 8, 3) := by decide +kernel
theorem dX0_perform_124 : decode cX0_perform 124 = .ok (.aload_n 0, 1) := by decide +kernel
theorem dX0_perform_125 : decode cX0_perform 125 = .ok (.invokevirtual 87, 3) := by decide +kernel
theorem dX0_perform_128 : decode cX0_perform 128 = .ok (.pop, 1) := by decide +kernel
theorem dX0_perform_129 : decode cX0_perform 129 = .ok (.iconst 1, 1) := by decide +kernel
theorem dX0_perform_130 : decode cX0_perform 130 = .ok (.ireturn, 1) := by decide +kernel
theorem dX0_canPerform_0 : decode cX0_canPerform 0 = .ok (.iload_n 1, 1) := by decide +kernel
theorem dX0_canPerform_1 : decode cX0_canPerform 1 = .ok (.tableswitch 95 97 108 #[69, 63, 95, 95, 95, 95, 76, 95, 95, 83, 95, 89], 63) := by decide +kernel
theorem dX0_canPerform_64 : decode cX0_canPerform 64 = .ok (.aload_n 0, 1) := by decide +kernel
theorem dX0_canPerform_65 : decode cX0_canPerform 65 = .ok (.iload_n 2, 1) := by decide +kernel
theorem dX0_canPerform_66 : decode cX0_canPerform 66 = .ok (.invokevirtual 91, 3) := by decide +kernel
theorem dX0_canPerform_69 : decode cX0_canPerform 69 = .ok (.ireturn, 1) := by decide +kernel
theorem dX0_canPerform_70 : decode cX0_canPerform 70 = .ok (.aload_n 0, 1) := by decide +kernel
theorem dX0_canPerform_71 : decode cX0_canPerform 71 = .ok (.iload_n 2, 1) := by decide +kernel
theorem dX0_canPerform_72 : decode cX0_canPerform 72 = .ok (.iload_n 3, 1) := by decide +kernel
theorem dX0_canPerform_73 : decode cX0_canPerform 73 = .ok (.invokevirtual 95, 3) := by decide +kernel
theorem dX0_canPerform_76 : decode cX0_canPerform 76 = .ok (.ireturn, 1) := by decide +kernel
theorem dX0_canPerform_77 : decode cX0_canPerform 77 = .ok (.aload_n 0, 1) := by decide +kernel
theorem dX0_canPerform_78 : decode cX0_canPerform 78 = .ok (.iload_n 2, 1) := by decide +kernel
theorem dX0_canPerform_79 : decode cX0_canPerform 79 = .ok (.iload_n 3, 1) := by decide +kernel
theorem dX0_canPerform_80 : decode cX0_canPerform 80 = .ok (.invokevirtual 99, 3) := by decide +kernel
theorem dX0_canPerform_83 : decode cX0_canPerform 83 = .ok (.ireturn, 1) := by decide +kernel
theorem dX0_canPerform_84 : decode cX0_canPerform 84 = .ok (.aload_n 0, 1) := by decide +kernel
theorem dX0_canPerform_85 : decode cX0_canPerform 85 = .ok (.iload_n 2, 1) := by decide +kernel
theorem dX0_canPerform_86 : decode cX0_canPerform 86 = .ok (.invokevirtual 102, 3) := by decide +kernel
theorem dX0_canPerform_89 : decode cX0_canPerform 89 = .ok (.ireturn, 1) := by decide +kernel
theorem dX0_canPerform_90 : decode cX0_canPerform 90 = .ok (.aload_n 0, 1) := by decide +kernel
theorem dX0_canPerform_91 : decode cX0_canPerform 91 = .ok (.iload_n 2, 1) := by decide +kernel
theorem dX0_canPerform_92 : decode cX0_canPerform 92 = .ok (.invokevirtual 105, 3) := by decide +kernel
theorem dX0_canPerform_95 : decode cX0_canPerform 95 = .ok (.ireturn, 1) := by decide +kernel
theorem dX0_canPerform_96 : decode cX0_canPerform 96 = .ok (.aload_n 0, 1) := by decide +kernel
theorem dX0_canPerform_97 : decode cX0_canPerform 97 = .ok (.invokevirtual 108, 3) := by decide +kernel
theorem dX0_canPerform_100 : decode cX0_canPerform 100 = .ok (.ireturn, 1) := by decide +kernel
theorem dX0_members_0 : decode cX0_members 0 = .ok (.aload_n 0, 1) := by decide +kernel
theorem dX0_members_1 : decode cX0_members 1 = .ok (.getfield 9, 3) := by decide +kernel
theorem dX0_members_4 : decode cX0_members 4 = .ok (.aload_n 0, 1) := by decide +kernel
theorem dX0_members_5 : decode cX0_members 5 = .ok (.getfield 31, 3) := by decide +kernel
theorem dX0_members_8 : decode cX0_members 8 = .ok (.iaload, 1) := by decide +kernel
theorem dX0_members_9 : decode cX0_members 9 = .ok (.ireturn, 1) := by decide +kernel
theorem dX0_isMember_0 : decode cX0_isMember 0 = .ok (.iload_n 1, 1) := by decide +kernel
theorem dX0_isMember_1 : decode cX0_isMember 1 = .ok (.invokestatic 112, 3) := by decide +kernel
theorem dX0_isMember_4 : decode cX0_isMember 4 = .ok (.ifCond .eq 18, 3) := by decide +kernel
theorem dX0_isMember_7 : decode cX0_isMember 7 = .ok (.aload_n 0, 1) := by decide +kernel
theorem dX0_isMember_8 : decode cX0_isMember 8 = .ok (.invokevirtual 115, 3) := by decide +kernel
theorem dX0_isMember_11 : decode cX0_isMember 11 = .ok (.iload_n 1, 1) := by decide +kernel
theorem dX0_isMember_12 : decode cX0_isMember 12 = .ok (.invokestatic 118, 3) := by decide +kernel
theorem dX0_isMember_15 : decode cX0_isMember 15 = .ok (.ifCond .eq 7, 3) := by decide +kernel
theorem dX0_isMember_18 : decode cX0_isMember 18 = .ok (.iconst 1, 1) := by decide +kernel
theorem dX0_isMember_19 : decode cX0_isMember 19 = .ok (.goto 4, 3) := by decide +kernel
theorem dX0_isMember_22 : decode cX0_isMember 22 = .ok (.iconst 0, 1) := by decide +kernel
theorem dX0_isMember_23 : decode cX0_isMember 23 = .ok (.ireturn, 1) := by decide +kernel
theorem dX0_canEnter_0 : decode cX0_canEnter 0 = .ok (.iload_n 1, 1) := by decide +kernel
theorem dX0_canEnter_1 : decode cX0_canEnter 1 = .ok (.invokestatic 112, 3) := by decide +kernel
theorem dX0_canEnter_4 : decode cX0_canEnter 4 = .ok (.ifCond .eq 18, 3) := by decide +kernel
theorem dX0_canEnter_7 : decode cX0_canEnter 7 = .ok (.aload_n 0, 1) := by decide +kernel
theorem dX0_canEnter_8 : decode cX0_canEnter 8 = .ok (.getfield 35, 3) := by decide +kernel
theorem dX0_canEnter_11 : decode cX0_canEnter 11 = .ok (.iload_n 1, 1) := by decide +kernel
theorem dX0_canEnter_12 : decode cX0_canEnter 12 = .ok (.invokestatic 118, 3) := by decide +kernel
theorem dX0_canEnter_15 : decode cX0_canEnter 15 = .ok (.ifCond .ne 7, 3) := by decide +kernel
theorem dX0_canEnter_18 : decode cX0_canEnter 18 = .ok (.iconst 1, 1) := by decide +kernel
theorem dX0_canEnter_19 : decode cX0_canEnter 19 = .ok (.goto 4, 3) := by decide +kernel
theorem dX0_canEnter_22 : decode cX0_canEnter 22 = .ok (.iconst 0, 1) := by decide +kernel
theorem dX0_canEnter_23 : decode cX0_canEnter 23 = .ok (.ireturn, 1) := by decide +kernel
theorem dX0_enter_0 : decode cX0_enter 0 = .ok (.aload_n 0, 1) := by decide +kernel
theorem dX0_enter_1 : decode cX0_enter 1 = .ok (.dup, 1) := by decide +kernel
theorem dX0_enter_2 : decode cX0_enter 2 = .ok (.getfield 35, 3) := by decide +kernel
theorem dX0_enter_5 : decode cX0_enter 5 = .ok (.iconst 1, 1) := by decide +kernel
theorem dX0_enter_6 : decode cX0_enter 6 = .ok (.iload_n 1, 1) := by decide +kernel
theorem dX0_enter_7 : decode cX0_enter 7 = .ok (.ishl, 1) := by decide +kernel
theorem dX0_enter_8 : decode cX0_enter 8 = .ok (.ior, 1) := by decide +kernel
theorem dX0_enter_9 : decode cX0_enter 9 = .ok (.putfield 35, 3) := by decide +kernel
theorem dX0_enter_12 : decode cX0_enter 12 = .ok (.aload_n 0, 1) := by decide +kernel
theorem dX0_enter_13 : decode cX0_enter 13 = .ok (.getfield 35, 3) := by decide +kernel
theorem dX0_enter_16 : decode cX0_enter 16 = .ok (.invokestatic 121, 3) := by decide +kernel
theorem dX0_enter_19 : decode cX0_enter 19 = .ok (.ireturn, 1) := by decide +kernel
theorem dX0_canQuit_0 : decode cX0_canQuit 0 = .ok (.iload_n 1, 1) := by decide +kernel
theorem dX0_canQuit_1 : decode cX0_canQuit 1 = .ok (.invokestatic 112, 3) := by decide +kernel
theorem dX0_canQuit_4 : decode cX0_canQuit 4 = .ok (.ifCond .eq 36, 3) := by decide +kernel
theorem dX0_canQuit_7 : decode cX0_canQuit 7 = .ok (.aload_n 0, 1) := by decide +kernel
theorem dX0_canQuit_8 : decode cX0_canQuit 8 = .ok (.getfield 35, 3) := by decide +kernel
theorem dX0_canQuit_11 : decode cX0_canQuit 11 = .ok (.iload_n 1, 1) := by decide +kernel
theorem dX0_canQuit_12 : decode cX0_canQuit 12 = .ok (.invokestatic 118, 3) := by decide +kernel
theorem dX0_canQuit_15 : decode cX0_canQuit 15 = .ok (.ifCond .eq 25, 3) := by decide +kernel
theorem dX0_canQuit_18 : decode cX0_canQuit 18 = .ok (.aload_n 0, 1) := by decide +kernel
theorem dX0_canQuit_19 : decode cX0_canQuit 19 = .ok (.invokevirtual 115, 3) := by decide +kernel
theorem dX0_canQuit_22 : decode cX0_canQuit 22 = .ok (.aload_n 0, 1) := by decide +kernel
theorem dX0_canQuit_23 : decode cX0_canQuit 23 = .ok (.getfield 35, 3) := by decide +kernel
theorem dX0_canQuit_26 : decode cX0_canQuit 26 = .ok (.iand, 1) := by decide +kernel
theorem dX0_canQuit_27 : decode cX0_canQuit 27 = .ok (.iconst 1, 1) := by decide +kernel
theorem dX0_canQuit_28 : decode cX0_canQuit 28 = .ok (.iload_n 1, 1) := by decide +kernel
theorem dX0_canQuit_29 : decode cX0_canQuit 29 = .ok (.ishl, 1) := by decide +kernel
theorem dX0_canQuit_30 : decode cX0_canQuit 30 = .ok (.iconst (-1), 1) := by decide +kernel
theorem dX0_canQuit_31 : decode cX0_canQuit 31 = .ok (.ixor, 1) := by decide +kernel
theorem dX0_canQuit_32 : decode cX0_canQuit 32 = .ok (.iand, 1) := by decide +kernel
theorem dX0_canQuit_33 : decode cX0_canQuit 33 = .ok (.ifCond .eq 7, 3) := by decide +kernel
theorem dX0_canQuit_36 : decode cX0_canQuit 36 = .ok (.iconst 1, 1) := by decide +kernel
theorem dX0_canQuit_37 : decode cX0_canQuit 37 = .ok (.goto 4, 3) := by decide +kernel
theorem dX0_canQuit_40 : decode cX0_canQuit 40 = .ok (.iconst 0, 1) := by decide +kernel
theorem dX0_canQuit_41 : decode cX0_canQuit 41 = .ok (.ireturn, 1) := by decide +kernel
theorem dX0_quit_0 : decode cX0_quit 0 = .ok (.aload_n 0, 1) := by decide +kernel
theorem dX0_quit_1 : decode cX0_quit 1 = .ok (.dup, 1) := by decide +kernel
theorem dX0_quit_2 : decode cX0_quit 2 = .ok (.getfield 35, 3) := by decide +kernel
theorem dX0_quit_5 : decode cX0_quit 5 = .ok (.iconst 1, 1) := by decide +kernel
theorem dX0_quit_6 : decode cX0_quit 6 = .ok (.iload_n 1, 1) := by decide +kernel
theorem dX0_quit_7 : decode cX0_quit 7 = .ok (.ishl, 1) := by decide +kernel
theorem dX0_quit_8 : decode cX0_quit 8 = .ok (.iconst (-1), 1) := by decide +kernel
theorem dX0_quit_9 : decode cX0_quit 9 = .ok (.ixor, 1) := by decide +kernel
theorem dX0_quit_10 : decode cX0_quit 10 = .ok (.iand, 1) := by decide +kernel
theorem dX0_quit_11 : decode cX0_quit 11 = .ok (.putfield 35, 3) := by decide +kernel
theorem dX0_quit_14 : decode cX0_quit 14 = .ok (.aload_n 0, 1) := by decide +kernel
theorem dX0_quit_15 : decode cX0_quit 15 = .ok (.getfield 35, 3) := by decide +kernel
theorem dX0_quit_18 : decode cX0_quit 18 = .ok (.invokestatic 121, 3) := by decide +kernel
theorem dX0_quit_21 : decode cX0_quit 21 = .ok (.ireturn, 1) := by decide +kernel
theorem dX0_canChangeView_0 : decode cX0_canChangeView 0 = .ok (.aload_n 0, 1) := by decide +kernel
theorem dX0_canChangeView_1 : decode cX0_canChangeView 1 = .ok (.getfield 31, 3) := by decide +kernel
theorem dX0_canChangeView_4 : decode cX0_canChangeView 4 = .ok (.bipush 20, 2) := by decide +kernel
theorem dX0_canChangeView_6 : decode cX0_canChangeView 6 = .ok (.if_icmp .ge 7, 3) := by decide +kernel
theorem dX0_canChangeView_9 : decode cX0_canChangeView 9 = .ok (.iconst 1, 1) := by decide +kernel
theorem dX0_canChangeView_10 : decode cX0_canChangeView 10 = .ok (.goto 4, 3) := by decide +kernel
theorem dX0_canChangeView_13 : decode cX0_canChangeView 13 = .ok (.iconst 0, 1) := by decide +kernel
theorem dX0_canChangeView_14 : decode cX0_canChangeView 14 = .ok (.ireturn, 1) := by decide +kernel
theorem dX0_changeView_0 : decode cX0_changeView 0 = .ok (.aload_n 0, 1) := by decide +kernel
theorem dX0_changeView_1 : decode cX0_changeView 1 = .ok (.invokevirtual 115, 3) := by decide +kernel
theorem dX0_changeView_4 : decode cX0_changeView 4 = .ok (.aload_n 0, 1) := by decide +kernel
theorem dX0_changeView_5 : decode cX0_changeView 5 = .ok (.getfield 35, 3) := by decide +kernel
theorem dX0_changeView_8 : decode cX0_changeView 8 = .ok (.iand, 1) := by decide +kernel
theorem dX0_changeView_9 : decode cX0_changeView 9 = .ok (.istore_n 1, 1) := by decide +kernel
theorem dX0_changeView_10 : decode cX0_changeView 10 = .ok (.iconst 0, 1) := by decide +kernel
theorem dX0_changeView_11 : decode cX0_changeView 11 = .ok (.istore_n 2, 1) := by decide +kernel
theorem dX0_changeView_12 : decode cX0_changeView 12 = .ok (.iconst 0, 1) := by decide +kernel
theorem dX0_changeView_13 : decode cX0_changeView 13 = .ok (.istore_n 3, 1) := by decide +kernel
theorem dX0_changeView_14 : decode cX0_changeView 14 = .ok (.iload_n 3, 1) := by decide +kernel
theorem dX0_changeView_15 : decode cX0_changeView 15 = .ok (.bipush 6, 2) := by decide +kernel
theorem dX0_changeView_17 : decode cX0_changeView 17 = .ok (.if_icmp .ge 26, 3) := by decide +kernel
theorem dX0_changeView_20 : decode cX0_changeView 20 = .ok (.iload_n 1, 1) := by decide +kernel
theorem dX0_changeView_21 : decode cX0_changeView 21 = .ok (.iload_n 3, 1) := by decide +kernel
theorem dX0_changeView_22 : decode cX0_changeView 22 = .ok (.invokestatic 118, 3) := by decide +kernel
theorem dX0_changeView_25 : decode cX0_changeView 25 = .ok (.ifCond .eq 12, 3) := by decide +kernel
theorem dX0_changeView_28 : decode cX0_changeView 28 = .ok (.iload_n 2, 1) := by decide +kernel
theorem dX0_changeView_29 : decode cX0_changeView 29 = .ok (.aload_n 0, 1) := by decide +kernel
theorem dX0_changeView_30 : decode cX0_changeView 30 = .ok (.iload_n 3, 1) := by decide +kernel
theorem dX0_changeView_31 : decode cX0_changeView 31 = .ok (.iload_n 1, 1) := by decide +kernel
theorem dX0_changeView_32 : decode cX0_changeView 32 = .ok (.invokevirtual 126, 3) := by decide +kernel
theorem dX0_changeView_35 : decode cX0_changeView 35 = .ok (.iadd, 1) := by decide +kernel
theorem dX0_changeView_36 : decode cX0_changeView 36 = .ok (.istore_n 2, 1) := by decide +kernel
theorem dX0_changeView_37 : decode cX0_changeView 37 = .ok (.iinc 3 1, 3) := by decide +kernel
theorem dX0_changeView_40 : decode cX0_changeView 40 = .ok (.goto (-26), 3) := by decide +kernel
theorem dX0_changeView_43 : decode cX0_changeView 43 = .ok (.aload_n 0, 1) := by decide +kernel
theorem dX0_changeView_44 : decode cX0_changeView 44 = .ok (.aload_n 0, 1) := by decide +kernel
theorem dX0_changeView_45 : decode cX0_changeView 45 = .ok (.getfield 35, 3) := by decide +kernel
theorem dX0_changeView_48 : decode cX0_changeView 48 = .ok (.aload_n 0, 1) := by decide +kernel
theorem dX0_changeView_49 : decode cX0_changeView 49 = .ok (.invokevirtual 115, 3) := by decide +kernel
theorem dX0_changeView_52 : decode cX0_changeView 52 = .ok (.iconst (-1), 1) := by decide +kernel
theorem dX0_changeView_53 : decode cX0_changeView 53 = .ok (.ixor, 1) := by decide +kernel
theorem dX0_changeView_54 : decode cX0_changeView 54 = .ok (.iand, 1) := by decide +kernel
theorem dX0_changeView_55 : decode cX0_changeView 55 = .ok (.aload_n 0, 1) := by decide +kernel
theorem dX0_changeView_56 : decode cX0_changeView 56 = .ok (.getfield 27, 3) := by decide +kernel
theorem dX0_changeView_59 : decode cX0_changeView 59 = .ok (.iload_n 1, 1) := by decide +kernel
theorem dX0_changeView_60 : decode cX0_changeView 60 = .ok (.invokestatic 129, 3) := by decide +kernel
theorem dX0_changeView_63 : decode cX0_changeView 63 = .ok (.aaload, 1) := by decide +kernel
theorem dX0_changeView_64 : decode cX0_changeView 64 = .ok (.invokevirtual 132, 3) := by decide +kernel
theorem dX0_changeView_67 : decode cX0_changeView 67 = .ok (.aload_n 0, 1) := by decide +kernel
theorem dX0_changeView_68 : decode cX0_changeView 68 = .ok (.dup, 1) := by decide +kernel
theorem dX0_changeView_69 : decode cX0_changeView 69 = .ok (.getfield 31, 3) := by decide +kernel
theorem dX0_changeView_72 : decode cX0_changeView 72 = .ok (.iconst 1, 1) := by decide +kernel
theorem dX0_changeView_73 : decode cX0_changeView 73 = .ok (.iadd, 1) := by decide +kernel
theorem dX0_changeView_74 : decode cX0_changeView 74 = .ok (.putfield 31, 3) := by decide +kernel
theorem dX0_changeView_77 : decode cX0_changeView 77 = .ok (.aload_n 0, 1) := by decide +kernel
theorem dX0_changeView_78 : decode cX0_changeView 78 = .ok (.getfield 9, 3) := by decide +kernel
theorem dX0_changeView_81 : decode cX0_changeView 81 = .ok (.aload_n 0, 1) := by decide +kernel
theorem dX0_changeView_82 : decode cX0_changeView 82 = .ok (.getfield 31, 3) := by decide +kernel
theorem dX0_changeView_85 : decode cX0_changeView 85 = .ok (.aload_n 0, 1) := by decide +kernel
theorem dX0_changeView_86 : decode cX0_changeView 86 = .ok (.getfield 35, 3) := by decide +kernel
theorem dX0_changeView_89 : decode cX0_changeView 89 = .ok (.iastore, 1) := by decide +kernel
theorem dX0_changeView_90 : decode cX0_changeView 90 = .ok (.aload_n 0, 1) := by decide +kernel
theorem dX0_changeView_91 : decode cX0_changeView 91 = .ok (.getfield 15, 3) := by decide +kernel
theorem dX0_changeView_94 : decode cX0_changeView 94 = .ok (.aload_n 0, 1) := by decide +kernel
theorem dX0_changeView_95 : decode cX0_changeView 95 = .ok (.getfield 31, 3) := by decide +kernel
theorem dX0_changeView_98 : decode cX0_changeView 98 = .ok (.iload_n 2, 1) := by decide +kernel
theorem dX0_changeView_99 : decode cX0_changeView 99 = .ok (.iastore, 1) := by decide +kernel
theorem dX0_changeView_100 : decode cX0_changeView 100 = .ok (.aload_n 0, 1) := by decide +kernel
theorem dX0_changeView_101 : decode cX0_changeView 101 = .ok (.invokevirtual 136, 3) := by decide +kernel
theorem dX0_changeView_104 : decode cX0_changeView 104 = .ok (.iload_n 2, 1) := by decide +kernel
theorem dX0_changeView_105 : decode cX0_changeView 105 = .ok (.ireturn, 1) := by decide +kernel
theorem dX0_force_0 : decode cX0_force 0 = .ok (.iconst 0, 1) := by decide +kernel
theorem dX0_force_1 : decode cX0_force 1 = .ok (.istore_n 3, 1) := by decide +kernel
theorem dX0_force_2 : decode cX0_force 2 = .ok (.aload_n 0, 1) := by decide +kernel
theorem dX0_force_3 : decode cX0_force 3 = .ok (.getfield 38, 3) := by decide +kernel
theorem dX0_force_6 : decode cX0_force 6 = .ok (.istore 4, 2) := by decide +kernel
theorem dX0_force_8 : decode cX0_force 8 = .ok (.iload 4, 2) := by decide +kernel
theorem dX0_force_10 : decode cX0_force 10 = .ok (.aload_n 0, 1) := by decide +kernel
theorem dX0_force_11 : decode cX0_force 11 = .ok (.getfield 21, 3) := by decide +kernel
theorem dX0_force_14 : decode cX0_force 14 = .ok (.getfield 50, 3) := by decide +kernel
theorem dX0_force_17 : decode cX0_force 17 = .ok (.if_icmp .ge 47, 3) := by decide +kernel
theorem dX0_force_20 : decode cX0_force 20 = .ok (.aload_n 0, 1) := by decide +kernel
theorem dX0_force_21 : decode cX0_force 21 = .ok (.iload_n 2, 1) := by decide +kernel
theorem dX0_force_22 : decode cX0_force 22 = .ok (.iload 4, 2) := by decide +kernel
theorem dX0_force_24 : decode cX0_force 24 = .ok (.invokevirtual 139, 3) := by decide +kernel
theorem dX0_force_27 : decode cX0_force 27 = .ok (.ifCond .eq 31, 3) := by decide +kernel
theorem dX0_force_30 : decode cX0_force 30 = .ok (.aload_n 0, 1) := by decide +kernel
theorem dX0_force_31 : decode cX0_force 31 = .ok (.getfield 27, 3) := by decide +kernel
theorem dX0_force_34 : decode cX0_force 34 = .ok (.iload_n 1, 1) := by decide +kernel
theorem dX0_force_35 : decode cX0_force 35 = .ok (.aaload, 1) := by decide +kernel
theorem dX0_force_36 : decode cX0_force 36 = .ok (.aload_n 0, 1) := by decide +kernel
theorem dX0_force_37 : decode cX0_force 37 = .ok (.getfield 21, 3) := by decide +kernel
theorem dX0_force_40 : decode cX0_force 40 = .ok (.iload 4, 2) := by decide +kernel
theorem dX0_force_42 : decode cX0_force 42 = .ok (.invokevirtual 142, 3) := by decide +kernel
theorem dX0_force_45 : decode cX0_force 45 = .ok (.ifCond .eq 13, 3) := by decide +kernel
theorem dX0_force_48 : decode cX0_force 48 = .ok (.aload_n 0, 1) := by decide +kernel
theorem dX0_force_49 : decode cX0_force 49 = .ok (.iload_n 1, 1) := by decide +kernel
theorem dX0_force_50 : decode cX0_force 50 = .ok (.iload 4, 2) := by decide +kernel
theorem dX0_force_52 : decode cX0_force 52 = .ok (.invokevirtual 146, 3) := by decide +kernel
theorem dX0_force_55 : decode cX0_force 55 = .ok (.iinc 3 1, 3) := by decide +kernel
theorem dX0_force_58 : decode cX0_force 58 = .ok (.iinc 4 1, 3) := by decide +kernel
theorem dX0_force_61 : decode cX0_force 61 = .ok (.goto (-53), 3) := by decide +kernel
theorem dX0_force_64 : decode cX0_force 64 = .ok (.iload_n 3, 1) := by decide +kernel
theorem dX0_force_65 : decode cX0_force 65 = .ok (.ireturn, 1) := by decide +kernel
theorem dX0_isLoggedAmong_0 : decode cX0_isLoggedAmong 0 = .ok (.iconst 0, 1) := by decide +kernel
theorem dX0_isLoggedAmong_1 : decode cX0_isLoggedAmong 1 = .ok (.istore_n 3, 1) := by decide +kernel
theorem dX0_isLoggedAmong_2 : decode cX0_isLoggedAmong 2 = .ok (.iload_n 3, 1) := by decide +kernel
theorem dX0_isLoggedAmong_3 : decode cX0_isLoggedAmong 3 = .ok (.bipush 6, 2) := by decide +kernel
theorem dX0_isLoggedAmong_5 : decode cX0_isLoggedAmong 5 = .ok (.if_icmp .ge 32, 3) := by decide +kernel
theorem dX0_isLoggedAmong_8 : decode cX0_isLoggedAmong 8 = .ok (.iload_n 1, 1) := by decide +kernel
theorem dX0_isLoggedAmong_9 : decode cX0_isLoggedAmong 9 = .ok (.iload_n 3, 1) := by decide +kernel
theorem dX0_isLoggedAmong_10 : decode cX0_isLoggedAmong 10 = .ok (.invokestatic 118, 3) := by decide +kernel
theorem dX0_isLoggedAmong_13 : decode cX0_isLoggedAmong 13 = .ok (.ifCond .eq 18, 3) := by decide +kernel
theorem dX0_isLoggedAmong_16 : decode cX0_isLoggedAmong 16 = .ok (.aload_n 0, 1) := by decide +kernel
theorem dX0_isLoggedAmong_17 : decode cX0_isLoggedAmong 17 = .ok (.getfield 27, 3) := by decide +kernel
theorem dX0_isLoggedAmong_20 : decode cX0_isLoggedAmong 20 = .ok (.iload_n 3, 1) := by decide +kernel
theorem dX0_isLoggedAmong_21 : decode cX0_isLoggedAmong 21 = .ok (.aaload, 1) := by decide +kernel
theorem dX0_isLoggedAmong_22 : decode cX0_isLoggedAmong 22 = .ok (.iload_n 2, 1) := by decide +kernel
theorem dX0_isLoggedAmong_23 : decode cX0_isLoggedAmong 23 = .ok (.invokevirtual 150, 3) := by decide +kernel
theorem dX0_isLoggedAmong_26 : decode cX0_isLoggedAmong 26 = .ok (.ifCond .eq 5, 3) := by decide +kernel
theorem dX0_isLoggedAmong_29 : decode cX0_isLoggedAmong 29 = .ok (.iconst 1, 1) := by decide +kernel
theorem dX0_isLoggedAmong_30 : decode cX0_isLoggedAmong 30 = .ok (.ireturn, 1) := by decide +kernel
theorem dX0_isLoggedAmong_31 : decode cX0_isLoggedAmong 31 = .ok (.iinc 3 1, 3) := by decide +kernel
theorem dX0_isLoggedAmong_34 : decode cX0_isLoggedAmong 34 = .ok (.goto (-32), 3) := by decide +kernel
theorem dX0_isLoggedAmong_37 : decode cX0_isLoggedAmong 37 = .ok (.iconst 0, 1) := by decide +kernel
theorem dX0_isLoggedAmong_38 : decode cX0_isLoggedAmong 38 = .ok (.ireturn, 1) := by decide +kernel
theorem dX0_beginView_0 : decode cX0_beginView 0 = .ok (.aload_n 0, 1) := by decide +kernel
theorem dX0_beginView_1 : decode cX0_beginView 1 = .ok (.aload_n 0, 1) := by decide +kernel
theorem dX0_beginView_2 : decode cX0_beginView 2 = .ok (.getfield 21, 3) := by decide +kernel
theorem dX0_beginView_5 : decode cX0_beginView 5 = .ok (.getfield 50, 3) := by decide +kernel
theorem dX0_beginView_8 : decode cX0_beginView 8 = .ok (.putfield 38, 3) := by decide +kernel
theorem dX0_beginView_11 : decode cX0_beginView 11 = .ok (.iconst 0, 1) := by decide +kernel
theorem dX0_beginView_12 : decode cX0_beginView 12 = .ok (.istore_n 1, 1) := by decide +kernel
theorem dX0_beginView_13 : decode cX0_beginView 13 = .ok (.iload_n 1, 1) := by decide +kernel
theorem dX0_beginView_14 : decode cX0_beginView 14 = .ok (.bipush 6, 2) := by decide +kernel
theorem dX0_beginView_16 : decode cX0_beginView 16 = .ok (.if_icmp .ge 18, 3) := by decide +kernel
theorem dX0_beginView_19 : decode cX0_beginView 19 = .ok (.aload_n 0, 1) := by decide +kernel
theorem dX0_beginView_20 : decode cX0_beginView 20 = .ok (.getfield 27, 3) := by decide +kernel
theorem dX0_beginView_23 : decode cX0_beginView 23 = .ok (.iload_n 1, 1) := by decide +kernel
theorem dX0_beginView_24 : decode cX0_beginView 24 = .ok (.aaload, 1) := by decide +kernel
theorem dX0_beginView_25 : decode cX0_beginView 25 = .ok (.invokevirtual 153, 3) := by decide +kernel
theorem dX0_beginView_28 : decode cX0_beginView 28 = .ok (.iinc 1 1, 3) := by decide +kernel
theorem dX0_beginView_31 : decode cX0_beginView 31 = .ok (.goto (-18), 3) := by decide +kernel
theorem dX0_beginView_34 : decode cX0_beginView 34 = .ok (.return_, 1) := by decide +kernel
theorem dX0_welcome_0 : decode cX0_welcome 0 = .ok (.iconst 0, 1) := by decide +kernel
theorem dX0_welcome_1 : decode cX0_welcome 1 = .ok (.istore_n 3, 1) := by decide +kernel
theorem dX0_welcome_2 : decode cX0_welcome 2 = .ok (.iload_n 3, 1) := by decide +kernel
theorem dX0_welcome_3 : decode cX0_welcome 3 = .ok (.bipush 6, 2) := by decide +kernel
theorem dX0_welcome_5 : decode cX0_welcome 5 = .ok (.if_icmp .ge 27, 3) := by decide +kernel
theorem dX0_welcome_8 : decode cX0_welcome 8 = .ok (.iload_n 1, 1) := by decide +kernel
theorem dX0_welcome_9 : decode cX0_welcome 9 = .ok (.iload_n 3, 1) := by decide +kernel
theorem dX0_welcome_10 : decode cX0_welcome 10 = .ok (.invokestatic 118, 3) := by decide +kernel
theorem dX0_welcome_13 : decode cX0_welcome 13 = .ok (.ifCond .eq 13, 3) := by decide +kernel
theorem dX0_welcome_16 : decode cX0_welcome 16 = .ok (.aload_n 0, 1) := by decide +kernel
theorem dX0_welcome_17 : decode cX0_welcome 17 = .ok (.getfield 27, 3) := by decide +kernel
theorem dX0_welcome_20 : decode cX0_welcome 20 = .ok (.iload_n 3, 1) := by decide +kernel
theorem dX0_welcome_21 : decode cX0_welcome 21 = .ok (.aaload, 1) := by decide +kernel
theorem dX0_welcome_22 : decode cX0_welcome 22 = .ok (.aload_n 2, 1) := by decide +kernel
theorem dX0_welcome_23 : decode cX0_welcome 23 = .ok (.invokevirtual 156, 3) := by decide +kernel
theorem dX0_welcome_26 : decode cX0_welcome 26 = .ok (.iinc 3 1, 3) := by decide +kernel
theorem dX0_welcome_29 : decode cX0_welcome 29 = .ok (.goto (-27), 3) := by decide +kernel
theorem dX0_welcome_32 : decode cX0_welcome 32 = .ok (.return_, 1) := by decide +kernel
theorem dX0_canSend_0 : decode cX0_canSend 0 = .ok (.aload_n 0, 1) := by decide +kernel
theorem dX0_canSend_1 : decode cX0_canSend 1 = .ok (.iload_n 1, 1) := by decide +kernel
theorem dX0_canSend_2 : decode cX0_canSend 2 = .ok (.invokevirtual 159, 3) := by decide +kernel
theorem dX0_canSend_5 : decode cX0_canSend 5 = .ok (.ifCond .eq 17, 3) := by decide +kernel
theorem dX0_canSend_8 : decode cX0_canSend 8 = .ok (.aload_n 0, 1) := by decide +kernel
theorem dX0_canSend_9 : decode cX0_canSend 9 = .ok (.getfield 21, 3) := by decide +kernel
theorem dX0_canSend_12 : decode cX0_canSend 12 = .ok (.invokevirtual 162, 3) := by decide +kernel
theorem dX0_canSend_15 : decode cX0_canSend 15 = .ok (.ifCond .ne 7, 3) := by decide +kernel
theorem dX0_canSend_18 : decode cX0_canSend 18 = .ok (.iconst 1, 1) := by decide +kernel
theorem dX0_canSend_19 : decode cX0_canSend 19 = .ok (.goto 4, 3) := by decide +kernel
theorem dX0_canSend_22 : decode cX0_canSend 22 = .ok (.iconst 0, 1) := by decide +kernel
theorem dX0_canSend_23 : decode cX0_canSend 23 = .ok (.ireturn, 1) := by decide +kernel
theorem dX0_send_0 : decode cX0_send 0 = .ok (.aload_n 0, 1) := by decide +kernel
theorem dX0_send_1 : decode cX0_send 1 = .ok (.getfield 21, 3) := by decide +kernel
theorem dX0_send_4 : decode cX0_send 4 = .ok (.getfield 50, 3) := by decide +kernel
theorem dX0_send_7 : decode cX0_send 7 = .ok (.istore_n 3, 1) := by decide +kernel
theorem dX0_send_8 : decode cX0_send 8 = .ok (.aload_n 0, 1) := by decide +kernel
theorem dX0_send_9 : decode cX0_send 9 = .ok (.getfield 27, 3) := by decide +kernel
theorem dX0_send_12 : decode cX0_send 12 = .ok (.iload_n 1, 1) := by decide +kernel
theorem dX0_send_13 : decode cX0_send 13 = .ok (.aaload, 1) := by decide +kernel
theorem dX0_send_14 : decode cX0_send 14 = .ok (.iload_n 3, 1) := by decide +kernel
theorem dX0_send_15 : decode cX0_send 15 = .ok (.iload_n 1, 1) := by decide +kernel
theorem dX0_send_16 : decode cX0_send 16 = .ok (.iload_n 2, 1) := by decide +kernel
theorem dX0_send_17 : decode cX0_send 17 = .ok (.invokevirtual 165, 3) := by decide +kernel
theorem dX0_send_20 : decode cX0_send 20 = .ok (.aload_n 0, 1) := by decide +kernel
theorem dX0_send_21 : decode cX0_send 21 = .ok (.getfield 21, 3) := by decide +kernel
theorem dX0_send_24 : decode cX0_send 24 = .ok (.aload_n 0, 1) := by decide +kernel
theorem dX0_send_25 : decode cX0_send 25 = .ok (.getfield 27, 3) := by decide +kernel
theorem dX0_send_28 : decode cX0_send 28 = .ok (.iload_n 1, 1) := by decide +kernel
theorem dX0_send_29 : decode cX0_send 29 = .ok (.aaload, 1) := by decide +kernel
theorem dX0_send_30 : decode cX0_send 30 = .ok (.iload_n 2, 1) := by decide +kernel
theorem dX0_send_31 : decode cX0_send 31 = .ok (.aload_n 0, 1) := by decide +kernel
theorem dX0_send_32 : decode cX0_send 32 = .ok (.getfield 31, 3) := by decide +kernel
theorem dX0_send_35 : decode cX0_send 35 = .ok (.invokevirtual 168, 3) := by decide +kernel
theorem dX0_send_38 : decode cX0_send 38 = .ok (.iload_n 3, 1) := by decide +kernel
theorem dX0_send_39 : decode cX0_send 39 = .ok (.ireturn, 1) := by decide +kernel
theorem dX0_canReceive_0 : decode cX0_canReceive 0 = .ok (.aload_n 0, 1) := by decide +kernel
theorem dX0_canReceive_1 : decode cX0_canReceive 1 = .ok (.iload_n 1, 1) := by decide +kernel
theorem dX0_canReceive_2 : decode cX0_canReceive 2 = .ok (.invokevirtual 159, 3) := by decide +kernel
theorem dX0_canReceive_5 : decode cX0_canReceive 5 = .ok (.ifCond .eq 26, 3) := by decide +kernel
theorem dX0_canReceive_8 : decode cX0_canReceive 8 = .ok (.aload_n 0, 1) := by decide +kernel
theorem dX0_canReceive_9 : decode cX0_canReceive 9 = .ok (.getfield 21, 3) := by decide +kernel
theorem dX0_canReceive_12 : decode cX0_canReceive 12 = .ok (.iload_n 2, 1) := by decide +kernel
theorem dX0_canReceive_13 : decode cX0_canReceive 13 = .ok (.invokevirtual 172, 3) := by decide +kernel
theorem dX0_canReceive_16 : decode cX0_canReceive 16 = .ok (.ifCond .eq 15, 3) := by decide +kernel
theorem dX0_canReceive_19 : decode cX0_canReceive 19 = .ok (.iload_n 2, 1) := by decide +kernel
theorem dX0_canReceive_20 : decode cX0_canReceive 20 = .ok (.aload_n 0, 1) := by decide +kernel
theorem dX0_canReceive_21 : decode cX0_canReceive 21 = .ok (.getfield 38, 3) := by decide +kernel
theorem dX0_canReceive_24 : decode cX0_canReceive 24 = .ok (.if_icmp .lt 7, 3) := by decide +kernel
theorem dX0_canReceive_27 : decode cX0_canReceive 27 = .ok (.iconst 1, 1) := by decide +kernel
theorem dX0_canReceive_28 : decode cX0_canReceive 28 = .ok (.goto 4, 3) := by decide +kernel
theorem dX0_canReceive_31 : decode cX0_canReceive 31 = .ok (.iconst 0, 1) := by decide +kernel
theorem dX0_canReceive_32 : decode cX0_canReceive 32 = .ok (.ireturn, 1) := by decide +kernel
theorem dX0_receive_0 : decode cX0_receive 0 = .ok (.aload_n 0, 1) := by decide +kernel
theorem dX0_receive_1 : decode cX0_receive 1 = .ok (.getfield 27, 3) := by decide +kernel
theorem dX0_receive_4 : decode cX0_receive 4 = .ok (.iload_n 1, 1) := by decide +kernel
theorem dX0_receive_5 : decode cX0_receive 5 = .ok (.aaload, 1) := by decide +kernel
theorem dX0_receive_6 : decode cX0_receive 6 = .ok (.getfield 175, 3) := by decide +kernel
theorem dX0_receive_9 : decode cX0_receive 9 = .ok (.iload_n 2, 1) := by decide +kernel
theorem dX0_receive_10 : decode cX0_receive 10 = .ok (.iaload, 1) := by decide +kernel
theorem dX0_receive_11 : decode cX0_receive 11 = .ok (.bipush (-2), 2) := by decide +kernel
theorem dX0_receive_13 : decode cX0_receive 13 = .ok (.if_icmp .eq 15, 3) := by decide +kernel
theorem dX0_receive_16 : decode cX0_receive 16 = .ok (.aload_n 0, 1) := by decide +kernel
theorem dX0_receive_17 : decode cX0_receive 17 = .ok (.dup, 1) := by decide +kernel
theorem dX0_receive_18 : decode cX0_receive 18 = .ok (.getfield 41, 3) := by decide +kernel
theorem dX0_receive_21 : decode cX0_receive 21 = .ok (.iconst 1, 1) := by decide +kernel
theorem dX0_receive_22 : decode cX0_receive 22 = .ok (.iadd, 1) := by decide +kernel
theorem dX0_receive_23 : decode cX0_receive 23 = .ok (.putfield 41, 3) := by decide +kernel
theorem dX0_receive_26 : decode cX0_receive 26 = .ok (.iconst 0, 1) := by decide +kernel
theorem dX0_receive_27 : decode cX0_receive 27 = .ok (.ireturn, 1) := by decide +kernel
theorem dX0_receive_28 : decode cX0_receive 28 = .ok (.aload_n 0, 1) := by decide +kernel
theorem dX0_receive_29 : decode cX0_receive 29 = .ok (.getfield 27, 3) := by decide +kernel
theorem dX0_receive_32 : decode cX0_receive 32 = .ok (.iload_n 1, 1) := by decide +kernel
theorem dX0_receive_33 : decode cX0_receive 33 = .ok (.aaload, 1) := by decide +kernel
theorem dX0_receive_34 : decode cX0_receive 34 = .ok (.getfield 175, 3) := by decide +kernel
theorem dX0_receive_37 : decode cX0_receive 37 = .ok (.iload_n 2, 1) := by decide +kernel
theorem dX0_receive_38 : decode cX0_receive 38 = .ok (.iconst (-1), 1) := by decide +kernel
theorem dX0_receive_39 : decode cX0_receive 39 = .ok (.iastore, 1) := by decide +kernel
theorem dX0_receive_40 : decode cX0_receive 40 = .ok (.aload_n 0, 1) := by decide +kernel
theorem dX0_receive_41 : decode cX0_receive 41 = .ok (.iload_n 1, 1) := by decide +kernel
theorem dX0_receive_42 : decode cX0_receive 42 = .ok (.iload_n 2, 1) := by decide +kernel
theorem dX0_receive_43 : decode cX0_receive 43 = .ok (.invokevirtual 178, 3) := by decide +kernel
theorem dX0_receive_46 : decode cX0_receive 46 = .ok (.ireturn, 1) := by decide +kernel
theorem dX0_receiveRest_0 : decode cX0_receiveRest 0 = .ok (.iconst 0, 1) := by decide +kernel
theorem dX0_receiveRest_1 : decode cX0_receiveRest 1 = .ok (.istore_n 2, 1) := by decide +kernel
theorem dX0_receiveRest_2 : decode cX0_receiveRest 2 = .ok (.aload_n 0, 1) := by decide +kernel
theorem dX0_receiveRest_3 : decode cX0_receiveRest 3 = .ok (.getfield 38, 3) := by decide +kernel
theorem dX0_receiveRest_6 : decode cX0_receiveRest 6 = .ok (.istore_n 3, 1) := by decide +kernel
theorem dX0_receiveRest_7 : decode cX0_receiveRest 7 = .ok (.iload_n 3, 1) := by decide +kernel
theorem dX0_receiveRest_8 : decode cX0_receiveRest 8 = .ok (.aload_n 0, 1) := by decide +kernel
theorem dX0_receiveRest_9 : decode cX0_receiveRest 9 = .ok (.getfield 21, 3) := by decide +kernel
theorem dX0_receiveRest_12 : decode cX0_receiveRest 12 = .ok (.getfield 50, 3) := by decide +kernel
theorem dX0_receiveRest_15 : decode cX0_receiveRest 15 = .ok (.if_icmp .ge 34, 3) := by decide +kernel
theorem dX0_receiveRest_18 : decode cX0_receiveRest 18 = .ok (.aload_n 0, 1) := by decide +kernel
theorem dX0_receiveRest_19 : decode cX0_receiveRest 19 = .ok (.getfield 27, 3) := by decide +kernel
theorem dX0_receiveRest_22 : decode cX0_receiveRest 22 = .ok (.iload_n 1, 1) := by decide +kernel
theorem dX0_receiveRest_23 : decode cX0_receiveRest 23 = .ok (.aaload, 1) := by decide +kernel
theorem dX0_receiveRest_24 : decode cX0_receiveRest 24 = .ok (.getfield 175, 3) := by decide +kernel
theorem dX0_receiveRest_27 : decode cX0_receiveRest 27 = .ok (.iload_n 3, 1) := by decide +kernel
theorem dX0_receiveRest_28 : decode cX0_receiveRest 28 = .ok (.iaload, 1) := by decide +kernel
theorem dX0_receiveRest_29 : decode cX0_receiveRest 29 = .ok (.bipush (-2), 2) := by decide +kernel
theorem dX0_receiveRest_31 : decode cX0_receiveRest 31 = .ok (.if_icmp .ne 12, 3) := by decide +kernel
theorem dX0_receiveRest_34 : decode cX0_receiveRest 34 = .ok (.iload_n 2, 1) := by decide +kernel
theorem dX0_receiveRest_35 : decode cX0_receiveRest 35 = .ok (.aload_n 0, 1) := by decide +kernel
theorem dX0_receiveRest_36 : decode cX0_receiveRest 36 = .ok (.iload_n 1, 1) := by decide +kernel
theorem dX0_receiveRest_37 : decode cX0_receiveRest 37 = .ok (.iload_n 3, 1) := by decide +kernel
theorem dX0_receiveRest_38 : decode cX0_receiveRest 38 = .ok (.invokevirtual 74, 3) := by decide +kernel
theorem dX0_receiveRest_41 : decode cX0_receiveRest 41 = .ok (.iadd, 1) := by decide +kernel
theorem dX0_receiveRest_42 : decode cX0_receiveRest 42 = .ok (.istore_n 2, 1) := by decide +kernel
theorem dX0_receiveRest_43 : decode cX0_receiveRest 43 = .ok (.iinc 3 1, 3) := by decide +kernel
theorem dX0_receiveRest_46 : decode cX0_receiveRest 46 = .ok (.goto (-39), 3) := by decide +kernel
theorem dX0_receiveRest_49 : decode cX0_receiveRest 49 = .ok (.iload_n 2, 1) := by decide +kernel
theorem dX0_receiveRest_50 : decode cX0_receiveRest 50 = .ok (.ireturn, 1) := by decide +kernel
theorem dX0_deliverWaiting_0 : decode cX0_deliverWaiting 0 = .ok (.iconst 0, 1) := by decide +kernel
theorem dX0_deliverWaiting_1 : decode cX0_deliverWaiting 1 = .ok (.istore_n 3, 1) := by decide +kernel
theorem dX0_deliverWaiting_2 : decode cX0_deliverWaiting 2 = .ok (.iload_n 2, 1) := by decide +kernel
theorem dX0_deliverWaiting_3 : decode cX0_deliverWaiting 3 = .ok (.istore 4, 2) := by decide +kernel
theorem dX0_deliverWaiting_5 : decode cX0_deliverWaiting 5 = .ok (.iload 4, 2) := by decide +kernel
theorem dX0_deliverWaiting_7 : decode cX0_deliverWaiting 7 = .ok (.aload_n 0, 1) := by decide +kernel
theorem dX0_deliverWaiting_8 : decode cX0_deliverWaiting 8 = .ok (.getfield 21, 3) := by decide +kernel
theorem dX0_deliverWaiting_11 : decode cX0_deliverWaiting 11 = .ok (.getfield 50, 3) := by decide +kernel
theorem dX0_deliverWaiting_14 : decode cX0_deliverWaiting 14 = .ok (.if_icmp .ge 53, 3) := by decide +kernel
theorem dX0_deliverWaiting_17 : decode cX0_deliverWaiting 17 = .ok (.aload_n 0, 1) := by decide +kernel
theorem dX0_deliverWaiting_18 : decode cX0_deliverWaiting 18 = .ok (.getfield 27, 3) := by decide +kernel
theorem dX0_deliverWaiting_21 : decode cX0_deliverWaiting 21 = .ok (.iload_n 1, 1) := by decide +kernel
theorem dX0_deliverWaiting_22 : decode cX0_deliverWaiting 22 = .ok (.aaload, 1) := by decide +kernel
theorem dX0_deliverWaiting_23 : decode cX0_deliverWaiting 23 = .ok (.getfield 175, 3) := by decide +kernel
theorem dX0_deliverWaiting_26 : decode cX0_deliverWaiting 26 = .ok (.iload 4, 2) := by decide +kernel
theorem dX0_deliverWaiting_28 : decode cX0_deliverWaiting 28 = .ok (.iaload, 1) := by decide +kernel
theorem dX0_deliverWaiting_29 : decode cX0_deliverWaiting 29 = .ok (.iconst (-1), 1) := by decide +kernel
theorem dX0_deliverWaiting_30 : decode cX0_deliverWaiting 30 = .ok (.if_icmp .ne 31, 3) := by decide +kernel
theorem dX0_deliverWaiting_33 : decode cX0_deliverWaiting 33 = .ok (.aload_n 0, 1) := by decide +kernel
theorem dX0_deliverWaiting_34 : decode cX0_deliverWaiting 34 = .ok (.getfield 27, 3) := by decide +kernel
theorem dX0_deliverWaiting_37 : decode cX0_deliverWaiting 37 = .ok (.iload_n 1, 1) := by decide +kernel
theorem dX0_deliverWaiting_38 : decode cX0_deliverWaiting 38 = .ok (.aaload, 1) := by decide +kernel
theorem dX0_deliverWaiting_39 : decode cX0_deliverWaiting 39 = .ok (.aload_n 0, 1) := by decide +kernel
theorem dX0_deliverWaiting_40 : decode cX0_deliverWaiting 40 = .ok (.getfield 21, 3) := by decide +kernel
theorem dX0_deliverWaiting_43 : decode cX0_deliverWaiting 43 = .ok (.iload 4, 2) := by decide +kernel
theorem dX0_deliverWaiting_45 : decode cX0_deliverWaiting 45 = .ok (.invokevirtual 142, 3) := by decide +kernel
theorem dX0_deliverWaiting_48 : decode cX0_deliverWaiting 48 = .ok (.ifCond .eq 13, 3) := by decide +kernel
theorem dX0_deliverWaiting_51 : decode cX0_deliverWaiting 51 = .ok (.aload_n 0, 1) := by decide +kernel
theorem dX0_deliverWaiting_52 : decode cX0_deliverWaiting 52 = .ok (.iload_n 1, 1) := by decide +kernel
theorem dX0_deliverWaiting_53 : decode cX0_deliverWaiting 53 = .ok (.iload 4, 2) := by decide +kernel
theorem dX0_deliverWaiting_55 : decode cX0_deliverWaiting 55 = .ok (.invokevirtual 146, 3) := by decide +kernel
theorem dX0_deliverWaiting_58 : decode cX0_deliverWaiting 58 = .ok (.iinc 3 1, 3) := by decide +kernel
theorem dX0_deliverWaiting_61 : decode cX0_deliverWaiting 61 = .ok (.iinc 4 1, 3) := by decide +kernel
theorem dX0_deliverWaiting_64 : decode cX0_deliverWaiting 64 = .ok (.goto (-59), 3) := by decide +kernel
theorem dX0_deliverWaiting_67 : decode cX0_deliverWaiting 67 = .ok (.iload_n 3, 1) := by decide +kernel
theorem dX0_deliverWaiting_68 : decode cX0_deliverWaiting 68 = .ok (.ireturn, 1) := by decide +kernel
theorem dX0_deliver_0 : decode cX0_deliver 0 = .ok (.aload_n 0, 1) := by decide +kernel
theorem dX0_deliver_1 : decode cX0_deliver 1 = .ok (.getfield 27, 3) := by decide +kernel
theorem dX0_deliver_4 : decode cX0_deliver 4 = .ok (.iload_n 1, 1) := by decide +kernel
theorem dX0_deliver_5 : decode cX0_deliver 5 = .ok (.aaload, 1) := by decide +kernel
theorem dX0_deliver_6 : decode cX0_deliver 6 = .ok (.iload_n 2, 1) := by decide +kernel
theorem dX0_deliver_7 : decode cX0_deliver 7 = .ok (.aload_n 0, 1) := by decide +kernel
theorem dX0_deliver_8 : decode cX0_deliver 8 = .ok (.getfield 21, 3) := by decide +kernel
theorem dX0_deliver_11 : decode cX0_deliver 11 = .ok (.getfield 181, 3) := by decide +kernel
theorem dX0_deliver_14 : decode cX0_deliver 14 = .ok (.iload_n 2, 1) := by decide +kernel
theorem dX0_deliver_15 : decode cX0_deliver 15 = .ok (.iaload, 1) := by decide +kernel
theorem dX0_deliver_16 : decode cX0_deliver 16 = .ok (.aload_n 0, 1) := by decide +kernel
theorem dX0_deliver_17 : decode cX0_deliver 17 = .ok (.getfield 21, 3) := by decide +kernel
theorem dX0_deliver_20 : decode cX0_deliver 20 = .ok (.getfield 184, 3) := by decide +kernel
theorem dX0_deliver_23 : decode cX0_deliver 23 = .ok (.iload_n 2, 1) := by decide +kernel
theorem dX0_deliver_24 : decode cX0_deliver 24 = .ok (.iaload, 1) := by decide +kernel
theorem dX0_deliver_25 : decode cX0_deliver 25 = .ok (.invokevirtual 165, 3) := by decide +kernel
theorem dX0_deliver_28 : decode cX0_deliver 28 = .ok (.aload_n 0, 1) := by decide +kernel
theorem dX0_deliver_29 : decode cX0_deliver 29 = .ok (.getfield 27, 3) := by decide +kernel
theorem dX0_deliver_32 : decode cX0_deliver 32 = .ok (.iload_n 1, 1) := by decide +kernel
theorem dX0_deliver_33 : decode cX0_deliver 33 = .ok (.aaload, 1) := by decide +kernel
theorem dX0_deliver_34 : decode cX0_deliver 34 = .ok (.aload_n 0, 1) := by decide +kernel
theorem dX0_deliver_35 : decode cX0_deliver 35 = .ok (.getfield 21, 3) := by decide +kernel
theorem dX0_deliver_38 : decode cX0_deliver 38 = .ok (.iload_n 2, 1) := by decide +kernel
theorem dX0_deliver_39 : decode cX0_deliver 39 = .ok (.invokevirtual 187, 3) := by decide +kernel
theorem dX0_deliver_42 : decode cX0_deliver 42 = .ok (.return_, 1) := by decide +kernel
theorem dX0_canTell_0 : decode cX0_canTell 0 = .ok (.aload_n 0, 1) := by decide +kernel
theorem dX0_canTell_1 : decode cX0_canTell 1 = .ok (.iload_n 1, 1) := by decide +kernel
theorem dX0_canTell_2 : decode cX0_canTell 2 = .ok (.invokevirtual 159, 3) := by decide +kernel
theorem dX0_canTell_5 : decode cX0_canTell 5 = .ok (.ifCond .eq 20, 3) := by decide +kernel
theorem dX0_canTell_8 : decode cX0_canTell 8 = .ok (.aload_n 0, 1) := by decide +kernel
theorem dX0_canTell_9 : decode cX0_canTell 9 = .ok (.iload_n 2, 1) := by decide +kernel
theorem dX0_canTell_10 : decode cX0_canTell 10 = .ok (.invokevirtual 159, 3) := by decide +kernel
theorem dX0_canTell_13 : decode cX0_canTell 13 = .ok (.ifCond .eq 12, 3) := by decide +kernel
theorem dX0_canTell_16 : decode cX0_canTell 16 = .ok (.iload_n 1, 1) := by decide +kernel
theorem dX0_canTell_17 : decode cX0_canTell 17 = .ok (.iload_n 2, 1) := by decide +kernel
theorem dX0_canTell_18 : decode cX0_canTell 18 = .ok (.if_icmp .eq 7, 3) := by decide +kernel
theorem dX0_canTell_21 : decode cX0_canTell 21 = .ok (.iconst 1, 1) := by decide +kernel
theorem dX0_canTell_22 : decode cX0_canTell 22 = .ok (.goto 4, 3) := by decide +kernel
theorem dX0_canTell_25 : decode cX0_canTell 25 = .ok (.iconst 0, 1) := by decide +kernel
theorem dX0_canTell_26 : decode cX0_canTell 26 = .ok (.ireturn, 1) := by decide +kernel
theorem dX0_tell_0 : decode cX0_tell 0 = .ok (.aload_n 0, 1) := by decide +kernel
theorem dX0_tell_1 : decode cX0_tell 1 = .ok (.getfield 27, 3) := by decide +kernel
theorem dX0_tell_4 : decode cX0_tell 4 = .ok (.iload_n 2, 1) := by decide +kernel
theorem dX0_tell_5 : decode cX0_tell 5 = .ok (.aaload, 1) := by decide +kernel
theorem dX0_tell_6 : decode cX0_tell 6 = .ok (.aload_n 0, 1) := by decide +kernel
theorem dX0_tell_7 : decode cX0_tell 7 = .ok (.getfield 27, 3) := by decide +kernel
theorem dX0_tell_10 : decode cX0_tell 10 = .ok (.iload_n 1, 1) := by decide +kernel
theorem dX0_tell_11 : decode cX0_tell 11 = .ok (.aaload, 1) := by decide +kernel
theorem dX0_tell_12 : decode cX0_tell 12 = .ok (.invokevirtual 191, 3) := by decide +kernel
theorem dX0_tell_15 : decode cX0_tell 15 = .ok (.ireturn, 1) := by decide +kernel
theorem dX0_countPlaced_0 : decode cX0_countPlaced 0 = .ok (.iconst 0, 1) := by decide +kernel
theorem dX0_countPlaced_1 : decode cX0_countPlaced 1 = .ok (.istore_n 3, 1) := by decide +kernel
theorem dX0_countPlaced_2 : decode cX0_countPlaced 2 = .ok (.aload_n 0, 1) := by decide +kernel
theorem dX0_countPlaced_3 : decode cX0_countPlaced 3 = .ok (.getfield 38, 3) := by decide +kernel
theorem dX0_countPlaced_6 : decode cX0_countPlaced 6 = .ok (.istore 4, 2) := by decide +kernel
theorem dX0_countPlaced_8 : decode cX0_countPlaced 8 = .ok (.iload 4, 2) := by decide +kernel
theorem dX0_countPlaced_10 : decode cX0_countPlaced 10 = .ok (.aload_n 0, 1) := by decide +kernel
theorem dX0_countPlaced_11 : decode cX0_countPlaced 11 = .ok (.getfield 21, 3) := by decide +kernel
theorem dX0_countPlaced_14 : decode cX0_countPlaced 14 = .ok (.getfield 50, 3) := by decide +kernel
theorem dX0_countPlaced_17 : decode cX0_countPlaced 17 = .ok (.if_icmp .ge 28, 3) := by decide +kernel
theorem dX0_countPlaced_20 : decode cX0_countPlaced 20 = .ok (.aload_n 0, 1) := by decide +kernel
theorem dX0_countPlaced_21 : decode cX0_countPlaced 21 = .ok (.getfield 27, 3) := by decide +kernel
theorem dX0_countPlaced_24 : decode cX0_countPlaced 24 = .ok (.iload_n 1, 1) := by decide +kernel
theorem dX0_countPlaced_25 : decode cX0_countPlaced 25 = .ok (.aaload, 1) := by decide +kernel
theorem dX0_countPlaced_26 : decode cX0_countPlaced 26 = .ok (.getfield 175, 3) := by decide +kernel
theorem dX0_countPlaced_29 : decode cX0_countPlaced 29 = .ok (.iload 4, 2) := by decide +kernel
theorem dX0_countPlaced_31 : decode cX0_countPlaced 31 = .ok (.iaload, 1) := by decide +kernel
theorem dX0_countPlaced_32 : decode cX0_countPlaced 32 = .ok (.iload_n 2, 1) := by decide +kernel
theorem dX0_countPlaced_33 : decode cX0_countPlaced 33 = .ok (.if_icmp .ne 6, 3) := by decide +kernel
theorem dX0_countPlaced_36 : decode cX0_countPlaced 36 = .ok (.iinc 3 1, 3) := by decide +kernel
theorem dX0_countPlaced_39 : decode cX0_countPlaced 39 = .ok (.iinc 4 1, 3) := by decide +kernel
theorem dX0_countPlaced_42 : decode cX0_countPlaced 42 = .ok (.goto (-34), 3) := by decide +kernel
theorem dX0_countPlaced_45 : decode cX0_countPlaced 45 = .ok (.iload_n 3, 1) := by decide +kernel
theorem dX0_countPlaced_46 : decode cX0_countPlaced 46 = .ok (.ireturn, 1) := by decide +kernel
theorem dX0_waitingAt_0 : decode cX0_waitingAt 0 = .ok (.iconst 0, 1) := by decide +kernel
theorem dX0_waitingAt_1 : decode cX0_waitingAt 1 = .ok (.istore_n 3, 1) := by decide +kernel
theorem dX0_waitingAt_2 : decode cX0_waitingAt 2 = .ok (.aload_n 0, 1) := by decide +kernel
theorem dX0_waitingAt_3 : decode cX0_waitingAt 3 = .ok (.getfield 38, 3) := by decide +kernel
theorem dX0_waitingAt_6 : decode cX0_waitingAt 6 = .ok (.istore 4, 2) := by decide +kernel
theorem dX0_waitingAt_8 : decode cX0_waitingAt 8 = .ok (.iload 4, 2) := by decide +kernel
theorem dX0_waitingAt_10 : decode cX0_waitingAt 10 = .ok (.aload_n 0, 1) := by decide +kernel
theorem dX0_waitingAt_11 : decode cX0_waitingAt 11 = .ok (.getfield 21, 3) := by decide +kernel
theorem dX0_waitingAt_14 : decode cX0_waitingAt 14 = .ok (.getfield 50, 3) := by decide +kernel
theorem dX0_waitingAt_17 : decode cX0_waitingAt 17 = .ok (.if_icmp .ge 36, 3) := by decide +kernel
theorem dX0_waitingAt_20 : decode cX0_waitingAt 20 = .ok (.aload_n 0, 1) := by decide +kernel
theorem dX0_waitingAt_21 : decode cX0_waitingAt 21 = .ok (.getfield 27, 3) := by decide +kernel
theorem dX0_waitingAt_24 : decode cX0_waitingAt 24 = .ok (.iload_n 1, 1) := by decide +kernel
theorem dX0_waitingAt_25 : decode cX0_waitingAt 25 = .ok (.aaload, 1) := by decide +kernel
theorem dX0_waitingAt_26 : decode cX0_waitingAt 26 = .ok (.getfield 175, 3) := by decide +kernel
theorem dX0_waitingAt_29 : decode cX0_waitingAt 29 = .ok (.iload 4, 2) := by decide +kernel
theorem dX0_waitingAt_31 : decode cX0_waitingAt 31 = .ok (.iaload, 1) := by decide +kernel
theorem dX0_waitingAt_32 : decode cX0_waitingAt 32 = .ok (.iconst (-1), 1) := by decide +kernel
theorem dX0_waitingAt_33 : decode cX0_waitingAt 33 = .ok (.if_icmp .ne 14, 3) := by decide +kernel
theorem dX0_waitingAt_36 : decode cX0_waitingAt 36 = .ok (.iload_n 3, 1) := by decide +kernel
theorem dX0_waitingAt_37 : decode cX0_waitingAt 37 = .ok (.iload_n 2, 1) := by decide +kernel
theorem dX0_waitingAt_38 : decode cX0_waitingAt 38 = .ok (.if_icmp .ne 6, 3) := by decide +kernel
theorem dX0_waitingAt_41 : decode cX0_waitingAt 41 = .ok (.iload 4, 2) := by decide +kernel
theorem dX0_waitingAt_43 : decode cX0_waitingAt 43 = .ok (.ireturn, 1) := by decide +kernel
theorem dX0_waitingAt_44 : decode cX0_waitingAt 44 = .ok (.iinc 3 1, 3) := by decide +kernel
theorem dX0_waitingAt_47 : decode cX0_waitingAt 47 = .ok (.iinc 4 1, 3) := by decide +kernel
theorem dX0_waitingAt_50 : decode cX0_waitingAt 50 = .ok (.goto (-42), 3) := by decide +kernel
theorem dX0_waitingAt_53 : decode cX0_waitingAt 53 = .ok (.iconst (-1), 1) := by decide +kernel
theorem dX0_waitingAt_54 : decode cX0_waitingAt 54 = .ok (.ireturn, 1) := by decide +kernel
theorem dX0_countMissing_0 : decode cX0_countMissing 0 = .ok (.iconst 0, 1) := by decide +kernel
theorem dX0_countMissing_1 : decode cX0_countMissing 1 = .ok (.istore_n 3, 1) := by decide +kernel
theorem dX0_countMissing_2 : decode cX0_countMissing 2 = .ok (.aload_n 0, 1) := by decide +kernel
theorem dX0_countMissing_3 : decode cX0_countMissing 3 = .ok (.getfield 38, 3) := by decide +kernel
theorem dX0_countMissing_6 : decode cX0_countMissing 6 = .ok (.istore 4, 2) := by decide +kernel
theorem dX0_countMissing_8 : decode cX0_countMissing 8 = .ok (.iload 4, 2) := by decide +kernel
theorem dX0_countMissing_10 : decode cX0_countMissing 10 = .ok (.aload_n 0, 1) := by decide +kernel
theorem dX0_countMissing_11 : decode cX0_countMissing 11 = .ok (.getfield 21, 3) := by decide +kernel
theorem dX0_countMissing_14 : decode cX0_countMissing 14 = .ok (.getfield 50, 3) := by decide +kernel
theorem dX0_countMissing_17 : decode cX0_countMissing 17 = .ok (.if_icmp .ge 39, 3) := by decide +kernel
theorem dX0_countMissing_20 : decode cX0_countMissing 20 = .ok (.aload_n 0, 1) := by decide +kernel
theorem dX0_countMissing_21 : decode cX0_countMissing 21 = .ok (.getfield 21, 3) := by decide +kernel
theorem dX0_countMissing_24 : decode cX0_countMissing 24 = .ok (.iload 4, 2) := by decide +kernel
theorem dX0_countMissing_26 : decode cX0_countMissing 26 = .ok (.iload_n 2, 1) := by decide +kernel
theorem dX0_countMissing_27 : decode cX0_countMissing 27 = .ok (.invokevirtual 195, 3) := by decide +kernel
theorem dX0_countMissing_30 : decode cX0_countMissing 30 = .ok (.ifCond .eq 20, 3) := by decide +kernel
theorem dX0_countMissing_33 : decode cX0_countMissing 33 = .ok (.aload_n 0, 1) := by decide +kernel
theorem dX0_countMissing_34 : decode cX0_countMissing 34 = .ok (.getfield 27, 3) := by decide +kernel
theorem dX0_countMissing_37 : decode cX0_countMissing 37 = .ok (.iload_n 1, 1) := by decide +kernel
theorem dX0_countMissing_38 : decode cX0_countMissing 38 = .ok (.aaload, 1) := by decide +kernel
theorem dX0_countMissing_39 : decode cX0_countMissing 39 = .ok (.iload 4, 2) := by decide +kernel
theorem dX0_countMissing_41 : decode cX0_countMissing 41 = .ok (.invokevirtual 150, 3) := by decide +kernel
theorem dX0_countMissing_44 : decode cX0_countMissing 44 = .ok (.ifCond .ne 6, 3) := by decide +kernel
theorem dX0_countMissing_47 : decode cX0_countMissing 47 = .ok (.iinc 3 1, 3) := by decide +kernel
theorem dX0_countMissing_50 : decode cX0_countMissing 50 = .ok (.iinc 4 1, 3) := by decide +kernel
theorem dX0_countMissing_53 : decode cX0_countMissing 53 = .ok (.goto (-45), 3) := by decide +kernel
theorem dX0_countMissing_56 : decode cX0_countMissing 56 = .ok (.iload_n 3, 1) := by decide +kernel
theorem dX0_countMissing_57 : decode cX0_countMissing 57 = .ok (.ireturn, 1) := by decide +kernel
theorem dX0_isSettled_0 : decode cX0_isSettled 0 = .ok (.iload_n 2, 1) := by decide +kernel
theorem dX0_isSettled_1 : decode cX0_isSettled 1 = .ok (.aload_n 0, 1) := by decide +kernel
theorem dX0_isSettled_2 : decode cX0_isSettled 2 = .ok (.getfield 38, 3) := by decide +kernel
theorem dX0_isSettled_5 : decode cX0_isSettled 5 = .ok (.if_icmp .ge 5, 3) := by decide +kernel
theorem dX0_isSettled_8 : decode cX0_isSettled 8 = .ok (.iconst 1, 1) := by decide +kernel
theorem dX0_isSettled_9 : decode cX0_isSettled 9 = .ok (.ireturn, 1) := by decide +kernel
theorem dX0_isSettled_10 : decode cX0_isSettled 10 = .ok (.aload_n 0, 1) := by decide +kernel
theorem dX0_isSettled_11 : decode cX0_isSettled 11 = .ok (.getfield 21, 3) := by decide +kernel
theorem dX0_isSettled_14 : decode cX0_isSettled 14 = .ok (.getfield 181, 3) := by decide +kernel
theorem dX0_isSettled_17 : decode cX0_isSettled 17 = .ok (.iload_n 2, 1) := by decide +kernel
theorem dX0_isSettled_18 : decode cX0_isSettled 18 = .ok (.iaload, 1) := by decide +kernel
theorem dX0_isSettled_19 : decode cX0_isSettled 19 = .ok (.istore_n 3, 1) := by decide +kernel
theorem dX0_isSettled_20 : decode cX0_isSettled 20 = .ok (.iconst 0, 1) := by decide +kernel
theorem dX0_isSettled_21 : decode cX0_isSettled 21 = .ok (.istore 4, 2) := by decide +kernel
theorem dX0_isSettled_23 : decode cX0_isSettled 23 = .ok (.iload 4, 2) := by decide +kernel
theorem dX0_isSettled_25 : decode cX0_isSettled 25 = .ok (.bipush 6, 2) := by decide +kernel
theorem dX0_isSettled_27 : decode cX0_isSettled 27 = .ok (.if_icmp .ge 44, 3) := by decide +kernel
theorem dX0_isSettled_30 : decode cX0_isSettled 30 = .ok (.aload_n 0, 1) := by decide +kernel
theorem dX0_isSettled_31 : decode cX0_isSettled 31 = .ok (.iload 4, 2) := by decide +kernel
theorem dX0_isSettled_33 : decode cX0_isSettled 33 = .ok (.invokevirtual 159, 3) := by decide +kernel
theorem dX0_isSettled_36 : decode cX0_isSettled 36 = .ok (.ifCond .eq 29, 3) := by decide +kernel
theorem dX0_isSettled_39 : decode cX0_isSettled 39 = .ok (.aload_n 0, 1) := by decide +kernel
theorem dX0_isSettled_40 : decode cX0_isSettled 40 = .ok (.getfield 27, 3) := by decide +kernel
theorem dX0_isSettled_43 : decode cX0_isSettled 43 = .ok (.iload_n 1, 1) := by decide +kernel
theorem dX0_isSettled_44 : decode cX0_isSettled 44 = .ok (.aaload, 1) := by decide +kernel
theorem dX0_isSettled_45 : decode cX0_isSettled 45 = .ok (.iload 4, 2) := by decide +kernel
theorem dX0_isSettled_47 : decode cX0_isSettled 47 = .ok (.iload_n 3, 1) := by decide +kernel
theorem dX0_isSettled_48 : decode cX0_isSettled 48 = .ok (.invokevirtual 198, 3) := by decide +kernel
theorem dX0_isSettled_51 : decode cX0_isSettled 51 = .ok (.aload_n 0, 1) := by decide +kernel
theorem dX0_isSettled_52 : decode cX0_isSettled 52 = .ok (.getfield 21, 3) := by decide +kernel
theorem dX0_isSettled_55 : decode cX0_isSettled 55 = .ok (.getfield 201, 3) := by decide +kernel
theorem dX0_isSettled_58 : decode cX0_isSettled 58 = .ok (.iload_n 2, 1) := by decide +kernel
theorem dX0_isSettled_59 : decode cX0_isSettled 59 = .ok (.iaload, 1) := by decide +kernel
theorem dX0_isSettled_60 : decode cX0_isSettled 60 = .ok (.if_icmp .ge 5, 3) := by decide +kernel
theorem dX0_isSettled_63 : decode cX0_isSettled 63 = .ok (.iconst 0, 1) := by decide +kernel
theorem dX0_isSettled_64 : decode cX0_isSettled 64 = .ok (.ireturn, 1) := by decide +kernel
theorem dX0_isSettled_65 : decode cX0_isSettled 65 = .ok (.iinc 4 1, 3) := by decide +kernel
theorem dX0_isSettled_68 : decode cX0_isSettled 68 = .ok (.goto (-45), 3) := by decide +kernel
theorem dX0_isSettled_71 : decode cX0_isSettled 71 = .ok (.iconst 1, 1) := by decide +kernel
theorem dX0_isSettled_72 : decode cX0_isSettled 72 = .ok (.ireturn, 1) := by decide +kernel
theorem dX0_countUnsettled_0 : decode cX0_countUnsettled 0 = .ok (.iconst 0, 1) := by decide +kernel
theorem dX0_countUnsettled_1 : decode cX0_countUnsettled 1 = .ok (.istore_n 2, 1) := by decide +kernel
theorem dX0_countUnsettled_2 : decode cX0_countUnsettled 2 = .ok (.aload_n 0, 1) := by decide +kernel
theorem dX0_countUnsettled_3 : decode cX0_countUnsettled 3 = .ok (.getfield 38, 3) := by decide +kernel
theorem dX0_countUnsettled_6 : decode cX0_countUnsettled 6 = .ok (.istore_n 3, 1) := by decide +kernel
theorem dX0_countUnsettled_7 : decode cX0_countUnsettled 7 = .ok (.iload_n 3, 1) := by decide +kernel
theorem dX0_countUnsettled_8 : decode cX0_countUnsettled 8 = .ok (.aload_n 0, 1) := by decide +kernel
theorem dX0_countUnsettled_9 : decode cX0_countUnsettled 9 = .ok (.getfield 21, 3) := by decide +kernel
theorem dX0_countUnsettled_12 : decode cX0_countUnsettled 12 = .ok (.getfield 50, 3) := by decide +kernel
theorem dX0_countUnsettled_15 : decode cX0_countUnsettled 15 = .ok (.if_icmp .ge 34, 3) := by decide +kernel
theorem dX0_countUnsettled_18 : decode cX0_countUnsettled 18 = .ok (.aload_n 0, 1) := by decide +kernel
theorem dX0_countUnsettled_19 : decode cX0_countUnsettled 19 = .ok (.getfield 27, 3) := by decide +kernel
theorem dX0_countUnsettled_22 : decode cX0_countUnsettled 22 = .ok (.iload_n 1, 1) := by decide +kernel
theorem dX0_countUnsettled_23 : decode cX0_countUnsettled 23 = .ok (.aaload, 1) := by decide +kernel
theorem dX0_countUnsettled_24 : decode cX0_countUnsettled 24 = .ok (.iload_n 3, 1) := by decide +kernel
theorem dX0_countUnsettled_25 : decode cX0_countUnsettled 25 = .ok (.invokevirtual 150, 3) := by decide +kernel
theorem dX0_countUnsettled_28 : decode cX0_countUnsettled 28 = .ok (.ifCond .eq 15, 3) := by decide +kernel
theorem dX0_countUnsettled_31 : decode cX0_countUnsettled 31 = .ok (.aload_n 0, 1) := by decide +kernel
theorem dX0_countUnsettled_32 : decode cX0_countUnsettled 32 = .ok (.iload_n 1, 1) := by decide +kernel
theorem dX0_countUnsettled_33 : decode cX0_countUnsettled 33 = .ok (.iload_n 3, 1) := by decide +kernel
theorem dX0_countUnsettled_34 : decode cX0_countUnsettled 34 = .ok (.invokevirtual 204, 3) := by decide +kernel
theorem dX0_countUnsettled_37 : decode cX0_countUnsettled 37 = .ok (.ifCond .ne 6, 3) := by decide +kernel
theorem dX0_countUnsettled_40 : decode cX0_countUnsettled 40 = .ok (.iinc 2 1, 3) := by decide +kernel
theorem dX0_countUnsettled_43 : decode cX0_countUnsettled 43 = .ok (.iinc 3 1, 3) := by decide +kernel
theorem dX0_countUnsettled_46 : decode cX0_countUnsettled 46 = .ok (.goto (-39), 3) := by decide +kernel
theorem dX0_countUnsettled_49 : decode cX0_countUnsettled 49 = .ok (.iload_n 2, 1) := by decide +kernel
theorem dX0_countUnsettled_50 : decode cX0_countUnsettled 50 = .ok (.ireturn, 1) := by decide +kernel
theorem dX0_isWithAll_0 : decode cX0_isWithAll 0 = .ok (.iconst 0, 1) := by decide +kernel
theorem dX0_isWithAll_1 : decode cX0_isWithAll 1 = .ok (.istore_n 2, 1) := by decide +kernel
theorem dX0_isWithAll_2 : decode cX0_isWithAll 2 = .ok (.iload_n 2, 1) := by decide +kernel
theorem dX0_isWithAll_3 : decode cX0_isWithAll 3 = .ok (.bipush 6, 2) := by decide +kernel
theorem dX0_isWithAll_5 : decode cX0_isWithAll 5 = .ok (.if_icmp .ge 32, 3) := by decide +kernel
theorem dX0_isWithAll_8 : decode cX0_isWithAll 8 = .ok (.aload_n 0, 1) := by decide +kernel
theorem dX0_isWithAll_9 : decode cX0_isWithAll 9 = .ok (.iload_n 2, 1) := by decide +kernel
theorem dX0_isWithAll_10 : decode cX0_isWithAll 10 = .ok (.invokevirtual 159, 3) := by decide +kernel
theorem dX0_isWithAll_13 : decode cX0_isWithAll 13 = .ok (.ifCond .eq 18, 3) := by decide +kernel
theorem dX0_isWithAll_16 : decode cX0_isWithAll 16 = .ok (.aload_n 0, 1) := by decide +kernel
theorem dX0_isWithAll_17 : decode cX0_isWithAll 17 = .ok (.getfield 27, 3) := by decide +kernel
theorem dX0_isWithAll_20 : decode cX0_isWithAll 20 = .ok (.iload_n 2, 1) := by decide +kernel
theorem dX0_isWithAll_21 : decode cX0_isWithAll 21 = .ok (.aaload, 1) := by decide +kernel
theorem dX0_isWithAll_22 : decode cX0_isWithAll 22 = .ok (.iload_n 1, 1) := by decide +kernel
theorem dX0_isWithAll_23 : decode cX0_isWithAll 23 = .ok (.invokevirtual 150, 3) := by decide +kernel
theorem dX0_isWithAll_26 : decode cX0_isWithAll 26 = .ok (.ifCond .ne 5, 3) := by decide +kernel
theorem dX0_isWithAll_29 : decode cX0_isWithAll 29 = .ok (.iconst 0, 1) := by decide +kernel
theorem dX0_isWithAll_30 : decode cX0_isWithAll 30 = .ok (.ireturn, 1) := by decide +kernel
theorem dX0_isWithAll_31 : decode cX0_isWithAll 31 = .ok (.iinc 2 1, 3) := by decide +kernel
theorem dX0_isWithAll_34 : decode cX0_isWithAll 34 = .ok (.goto (-32), 3) := by decide +kernel
theorem dX0_isWithAll_37 : decode cX0_isWithAll 37 = .ok (.iconst 1, 1) := by decide +kernel
theorem dX0_isWithAll_38 : decode cX0_isWithAll 38 = .ok (.ireturn, 1) := by decide +kernel
theorem dX0_findUnaware_0 : decode cX0_findUnaware 0 = .ok (.aload_n 0, 1) := by decide +kernel
theorem dX0_findUnaware_1 : decode cX0_findUnaware 1 = .ok (.iload_n 1, 1) := by decide +kernel
theorem dX0_findUnaware_2 : decode cX0_findUnaware 2 = .ok (.invokevirtual 207, 3) := by decide +kernel
theorem dX0_findUnaware_5 : decode cX0_findUnaware 5 = .ok (.ifCond .ne 5, 3) := by decide +kernel
theorem dX0_findUnaware_8 : decode cX0_findUnaware 8 = .ok (.iconst (-1), 1) := by decide +kernel
theorem dX0_findUnaware_9 : decode cX0_findUnaware 9 = .ok (.ireturn, 1) := by decide +kernel
theorem dX0_findUnaware_10 : decode cX0_findUnaware 10 = .ok (.iconst 0, 1) := by decide +kernel
theorem dX0_findUnaware_11 : decode cX0_findUnaware 11 = .ok (.istore_n 2, 1) := by decide +kernel
theorem dX0_findUnaware_12 : decode cX0_findUnaware 12 = .ok (.iload_n 2, 1) := by decide +kernel
theorem dX0_findUnaware_13 : decode cX0_findUnaware 13 = .ok (.bipush 6, 2) := by decide +kernel
theorem dX0_findUnaware_15 : decode cX0_findUnaware 15 = .ok (.if_icmp .ge 28, 3) := by decide +kernel
theorem dX0_findUnaware_18 : decode cX0_findUnaware 18 = .ok (.aload_n 0, 1) := by decide +kernel
theorem dX0_findUnaware_19 : decode cX0_findUnaware 19 = .ok (.iload_n 2, 1) := by decide +kernel
theorem dX0_findUnaware_20 : decode cX0_findUnaware 20 = .ok (.invokevirtual 159, 3) := by decide +kernel
theorem dX0_findUnaware_23 : decode cX0_findUnaware 23 = .ok (.ifCond .eq 14, 3) := by decide +kernel
theorem dX0_findUnaware_26 : decode cX0_findUnaware 26 = .ok (.aload_n 0, 1) := by decide +kernel
theorem dX0_findUnaware_27 : decode cX0_findUnaware 27 = .ok (.iload_n 2, 1) := by decide +kernel
theorem dX0_findUnaware_28 : decode cX0_findUnaware 28 = .ok (.iload_n 1, 1) := by decide +kernel
theorem dX0_findUnaware_29 : decode cX0_findUnaware 29 = .ok (.invokevirtual 204, 3) := by decide +kernel
theorem dX0_findUnaware_32 : decode cX0_findUnaware 32 = .ok (.ifCond .ne 5, 3) := by decide +kernel
theorem dX0_findUnaware_35 : decode cX0_findUnaware 35 = .ok (.iload_n 2, 1) := by decide +kernel
theorem dX0_findUnaware_36 : decode cX0_findUnaware 36 = .ok (.ireturn, 1) := by decide +kernel
theorem dX0_findUnaware_37 : decode cX0_findUnaware 37 = .ok (.iinc 2 1, 3) := by decide +kernel
theorem dX0_findUnaware_40 : decode cX0_findUnaware 40 = .ok (.goto (-28), 3) := by decide +kernel
theorem dX0_findUnaware_43 : decode cX0_findUnaware 43 = .ok (.iconst (-1), 1) := by decide +kernel
theorem dX0_findUnaware_44 : decode cX0_findUnaware 44 = .ok (.ireturn, 1) := by decide +kernel
theorem dX1_init_0 : decode cX1_init 0 = .ok (.aload_n 0, 1) := by decide +kernel
theorem dX1_init_1 : decode cX1_init 1 = .ok (.invokespecial 3, 3) := by decide +kernel
theorem dX1_init_4 : decode cX1_init 4 = .ok (.aload_n 0, 1) := by decide +kernel
theorem dX1_init_5 : decode cX1_init 5 = .ok (.sipush 150, 3) := by decide +kernel
theorem dX1_init_8 : decode cX1_init 8 = .ok (.newarray .int, 2) := by decide +kernel
theorem dX1_init_10 : decode cX1_init 10 = .ok (.putfield 9, 3) := by decide +kernel
theorem dX1_init_13 : decode cX1_init 13 = .ok (.aload_n 0, 1) := by decide +kernel
theorem dX1_init_14 : decode cX1_init 14 = .ok (.sipush 150, 3) := by decide +kernel
theorem dX1_init_17 : decode cX1_init 17 = .ok (.newarray .int, 2) := by decide +kernel
theorem dX1_init_19 : decode cX1_init 19 = .ok (.putfield 15, 3) := by decide +kernel
theorem dX1_init_22 : decode cX1_init 22 = .ok (.aload_n 0, 1) := by decide +kernel
theorem dX1_init_23 : decode cX1_init 23 = .ok (.sipush 150, 3) := by decide +kernel
theorem dX1_init_26 : decode cX1_init 26 = .ok (.newarray .int, 2) := by decide +kernel
theorem dX1_init_28 : decode cX1_init 28 = .ok (.putfield 18, 3) := by decide +kernel
theorem dX1_init_31 : decode cX1_init 31 = .ok (.aload_n 0, 1) := by decide +kernel
theorem dX1_init_32 : decode cX1_init 32 = .ok (.sipush 150, 3) := by decide +kernel
theorem dX1_init_35 : decode cX1_init 35 = .ok (.newarray .int, 2) := by decide +kernel
theorem dX1_init_37 : decode cX1_init 37 = .ok (.putfield 21, 3) := by decide +kernel
theorem dX1_init_40 : decode cX1_init 40 = .ok (.aload_n 0, 1) := by decide +kernel
theorem dX1_init_41 : decode cX1_init 41 = .ok (.sipush 150, 3) := by decide +kernel
theorem dX1_init_44 : decode cX1_init 44 = .ok (.newarray .int, 2) := by decide +kernel
theorem dX1_init_46 : decode cX1_init 46 = .ok (.putfield 24, 3) := by decide +kernel
theorem dX1_init_49 : decode cX1_init 49 = .ok (.aload_n 0, 1) := by decide +kernel
theorem dX1_init_50 : decode cX1_init 50 = .ok (.sipush 900, 3) := by decide +kernel
theorem dX1_init_53 : decode cX1_init 53 = .ok (.newarray .int, 2) := by decide +kernel
theorem dX1_init_55 : decode cX1_init 55 = .ok (.putfield 27, 3) := by decide +kernel
theorem dX1_init_58 : decode cX1_init 58 = .ok (.aload_n 0, 1) := by decide +kernel
theorem dX1_init_59 : decode cX1_init 59 = .ok (.iconst 0, 1) := by decide +kernel
theorem dX1_init_60 : decode cX1_init 60 = .ok (.putfield 30, 3) := by decide +kernel
theorem dX1_init_63 : decode cX1_init 63 = .ok (.return_, 1) := by decide +kernel
theorem dX1_has_0 : decode cX1_has 0 = .ok (.iload_n 1, 1) := by decide +kernel
theorem dX1_has_1 : decode cX1_has 1 = .ok (.ifCond .lt 15, 3) := by decide +kernel
theorem dX1_has_4 : decode cX1_has 4 = .ok (.iload_n 1, 1) := by decide +kernel
theorem dX1_has_5 : decode cX1_has 5 = .ok (.aload_n 0, 1) := by decide +kernel
theorem dX1_has_6 : decode cX1_has 6 = .ok (.getfield 30, 3) := by decide +kernel
theorem dX1_has_9 : decode cX1_has 9 = .ok (.if_icmp .ge 7, 3) := by decide +kernel
theorem dX1_has_12 : decode cX1_has 12 = .ok (.iconst 1, 1) := by decide +kernel
theorem dX1_has_13 : decode cX1_has 13 = .ok (.goto 4, 3) := by decide +kernel
theorem dX1_has_16 : decode cX1_has 16 = .ok (.iconst 0, 1) := by decide +kernel
theorem dX1_has_17 : decode cX1_has 17 = .ok (.ireturn, 1) := by decide +kernel
theorem dX1_isFull_0 : decode cX1_isFull 0 = .ok (.aload_n 0, 1) := by decide +kernel
theorem dX1_isFull_1 : decode cX1_isFull 1 = .ok (.getfield 30, 3) := by decide +kernel
theorem dX1_isFull_4 : decode cX1_isFull 4 = .ok (.sipush 150, 3) := by decide +kernel
theorem dX1_isFull_7 : decode cX1_isFull 7 = .ok (.if_icmp .lt 7, 3) := by decide +kernel
theorem dX1_isFull_10 : decode cX1_isFull 10 = .ok (.iconst 1, 1) := by decide +kernel
theorem dX1_isFull_11 : decode cX1_isFull 11 = .ok (.goto 4, 3) := by decide +kernel
theorem dX1_isFull_14 : decode cX1_isFull 14 = .ok (.iconst 0, 1) := by decide +kernel
theorem dX1_isFull_15 : decode cX1_isFull 15 = .ok (.ireturn, 1) := by decide +kernel
theorem dX1_entry_0 : decode cX1_entry 0 = .ok (.aload_n 0, 1) := by decide +kernel
theorem dX1_entry_1 : decode cX1_entry 1 = .ok (.getfield 27, 3) := by decide +kernel
theorem dX1_entry_4 : decode cX1_entry 4 = .ok (.iload_n 1, 1) := by decide +kernel
theorem dX1_entry_5 : decode cX1_entry 5 = .ok (.bipush 6, 2) := by decide +kernel
theorem dX1_entry_7 : decode cX1_entry 7 = .ok (.imul, 1) := by decide +kernel
theorem dX1_entry_8 : decode cX1_entry 8 = .ok (.iload_n 2, 1) := by decide +kernel
theorem dX1_entry_9 : decode cX1_entry 9 = .ok (.iadd, 1) := by decide +kernel
theorem dX1_entry_10 : decode cX1_entry 10 = .ok (.iaload, 1) := by decide +kernel
theorem dX1_entry_11 : decode cX1_entry 11 = .ok (.ireturn, 1) := by decide +kernel
theorem dX1_add_0 : decode cX1_add 0 = .ok (.aload_n 0, 1) := by decide +kernel
theorem dX1_add_1 : decode cX1_add 1 = .ok (.invokevirtual 34, 3) := by decide +kernel
theorem dX1_add_4 : decode cX1_add 4 = .ok (.ifCond .eq 4, 3) := by decide +kernel
theorem dX1_add_7 : decode cX1_add 7 = .ok (.return_, 1) := by decide +kernel
theorem dX1_add_8 : decode cX1_add 8 = .ok (.aload_n 0, 1) := by decide +kernel
theorem dX1_add_9 : decode cX1_add 9 = .ok (.getfield 30, 3) := by decide +kernel
theorem dX1_add_12 : decode cX1_add 12 = .ok (.istore 4, 2) := by decide +kernel
theorem dX1_add_14 : decode cX1_add 14 = .ok (.aload_n 0, 1) := by decide +kernel
theorem dX1_add_15 : decode cX1_add 15 = .ok (.getfield 9, 3) := by decide +kernel
theorem dX1_add_18 : decode cX1_add 18 = .ok (.iload 4, 2) := by decide +kernel
theorem dX1_add_20 : decode cX1_add 20 = .ok (.aload_n 1, 1) := by decide +kernel
theorem dX1_add_21 : decode cX1_add 21 = .ok (.getfield 38, 3) := by decide +kernel
theorem dX1_add_24 : decode cX1_add 24 = .ok (.iastore, 1) := by decide +kernel
theorem dX1_add_25 : decode cX1_add 25 = .ok (.aload_n 0, 1) := by decide +kernel
theorem dX1_add_26 : decode cX1_add 26 = .ok (.getfield 15, 3) := by decide +kernel
theorem dX1_add_29 : decode cX1_add 29 = .ok (.iload 4, 2) := by decide +kernel
theorem dX1_add_31 : decode cX1_add 31 = .ok (.iload_n 2, 1) := by decide +kernel
theorem dX1_add_32 : decode cX1_add 32 = .ok (.iastore, 1) := by decide +kernel
theorem dX1_add_33 : decode cX1_add 33 = .ok (.aload_n 0, 1) := by decide +kernel
theorem dX1_add_34 : decode cX1_add 34 = .ok (.getfield 18, 3) := by decide +kernel
theorem dX1_add_37 : decode cX1_add 37 = .ok (.iload 4, 2) := by decide +kernel
theorem dX1_add_39 : decode cX1_add 39 = .ok (.iload_n 3, 1) := by decide +kernel
theorem dX1_add_40 : decode cX1_add 40 = .ok (.iastore, 1) := by decide +kernel
theorem dX1_add_41 : decode cX1_add 41 = .ok (.aload_n 0, 1) := by decide +kernel
theorem dX1_add_42 : decode cX1_add 42 = .ok (.getfield 21, 3) := by decide +kernel
theorem dX1_add_45 : decode cX1_add 45 = .ok (.iload 4, 2) := by decide +kernel
theorem dX1_add_47 : decode cX1_add 47 = .ok (.aload_n 1, 1) := by decide +kernel
theorem dX1_add_48 : decode cX1_add 48 = .ok (.aload_n 1, 1) := by decide +kernel
theorem dX1_add_49 : decode cX1_add 49 = .ok (.getfield 38, 3) := by decide +kernel
theorem dX1_add_52 : decode cX1_add 52 = .ok (.invokevirtual 43, 3) := by decide +kernel
theorem dX1_add_55 : decode cX1_add 55 = .ok (.iastore, 1) := by decide +kernel
theorem dX1_add_56 : decode cX1_add 56 = .ok (.iconst 0, 1) := by decide +kernel
theorem dX1_add_57 : decode cX1_add 57 = .ok (.istore 5, 2) := by decide +kernel
theorem dX1_add_59 : decode cX1_add 59 = .ok (.iload 5, 2) := by decide +kernel
theorem dX1_add_61 : decode cX1_add 61 = .ok (.bipush 6, 2) := by decide +kernel
theorem dX1_add_63 : decode cX1_add 63 = .ok (.if_icmp .ge 28, 3) := by decide +kernel
theorem dX1_add_66 : decode cX1_add 66 = .ok (.aload_n 0, 1) := by decide +kernel
theorem dX1_add_67 : decode cX1_add 67 = .ok (.getfield 27, 3) := by decide +kernel
theorem dX1_add_70 : decode cX1_add 70 = .ok (.iload 4, 2) := by decide +kernel
theorem dX1_add_72 : decode cX1_add 72 = .ok (.bipush 6, 2) := by decide +kernel
theorem dX1_add_74 : decode cX1_add 74 = .ok (.imul, 1) := by decide +kernel
theorem dX1_add_75 : decode cX1_add 75 = .ok (.iload 5, 2) := by decide +kernel
theorem dX1_add_77 : decode cX1_add 77 = .ok (.iadd, 1) := by decide +kernel
theorem dX1_add_78 : decode cX1_add 78 = .ok (.aload_n 1, 1) := by decide +kernel
theorem dX1_add_79 : decode cX1_add 79 = .ok (.iload 5, 2) := by decide +kernel
theorem dX1_add_81 : decode cX1_add 81 = .ok (.invokevirtual 43, 3) := by decide +kernel
theorem dX1_add_84 : decode cX1_add 84 = .ok (.iastore, 1) := by decide +kernel
theorem dX1_add_85 : decode cX1_add 85 = .ok (.iinc 5 1, 3) := by decide +kernel
theorem dX1_add_88 : decode cX1_add 88 = .ok (.goto (-29), 3) := by decide +kernel
theorem dX1_add_91 : decode cX1_add 91 = .ok (.aload_n 0, 1) := by decide +kernel
theorem dX1_add_92 : decode cX1_add 92 = .ok (.getfield 24, 3) := by decide +kernel
theorem dX1_add_95 : decode cX1_add 95 = .ok (.iload 4, 2) := by decide +kernel
theorem dX1_add_97 : decode cX1_add 97 = .ok (.iconst 1, 1) := by decide +kernel
theorem dX1_add_98 : decode cX1_add 98 = .ok (.aload_n 0, 1) := by decide +kernel
theorem dX1_add_99 : decode cX1_add 99 = .ok (.iload 4, 2) := by decide +kernel
theorem dX1_add_101 : decode cX1_add 101 = .ok (.invokevirtual 47, 3) := by decide +kernel
theorem dX1_add_104 : decode cX1_add 104 = .ok (.iadd, 1) := by decide +kernel
theorem dX1_add_105 : decode cX1_add 105 = .ok (.iastore, 1) := by decide +kernel
theorem dX1_add_106 : decode cX1_add 106 = .ok (.aload_n 0, 1) := by decide +kernel
theorem dX1_add_107 : decode cX1_add 107 = .ok (.dup, 1) := by decide +kernel
theorem dX1_add_108 : decode cX1_add 108 = .ok (.getfield 30, 3) := by decide +kernel
theorem dX1_add_111 : decode cX1_add 111 = .ok (.iconst 1, 1) := by decide +kernel
theorem dX1_add_112 : decode cX1_add 112 = .ok (.iadd, 1) := by decide +kernel
theorem dX1_add_113 : decode cX1_add 113 = .ok (.putfield 30, 3) := by decide +kernel
theorem dX1_add_116 : decode cX1_add 116 = .ok (.return_, 1) := by decide +kernel
theorem dX1_precedes_0 : decode cX1_precedes 0 = .ok (.iload_n 1, 1) := by decide +kernel
theorem dX1_precedes_1 : decode cX1_precedes 1 = .ok (.iload_n 2, 1) := by decide +kernel
theorem dX1_precedes_2 : decode cX1_precedes 2 = .ok (.if_icmp .eq 42, 3) := by decide +kernel
theorem dX1_precedes_5 : decode cX1_precedes 5 = .ok (.aload_n 0, 1) := by decide +kernel
theorem dX1_precedes_6 : decode cX1_precedes 6 = .ok (.getfield 18, 3) := by decide +kernel
theorem dX1_precedes_9 : decode cX1_precedes 9 = .ok (.iload_n 1, 1) := by decide +kernel
theorem dX1_precedes_10 : decode cX1_precedes 10 = .ok (.iaload, 1) := by decide +kernel
theorem dX1_precedes_11 : decode cX1_precedes 11 = .ok (.aload_n 0, 1) := by decide +kernel
theorem dX1_precedes_12 : decode cX1_precedes 12 = .ok (.getfield 18, 3) := by decide +kernel
theorem dX1_precedes_15 : decode cX1_precedes 15 = .ok (.iload_n 2, 1) := by decide +kernel
theorem dX1_precedes_16 : decode cX1_precedes 16 = .ok (.iaload, 1) := by decide +kernel
theorem dX1_precedes_17 : decode cX1_precedes 17 = .ok (.if_icmp .ne 27, 3) := by decide +kernel
theorem dX1_precedes_20 : decode cX1_precedes 20 = .ok (.aload_n 0, 1) := by decide +kernel
theorem dX1_precedes_21 : decode cX1_precedes 21 = .ok (.iload_n 2, 1) := by decide +kernel
theorem dX1_precedes_22 : decode cX1_precedes 22 = .ok (.aload_n 0, 1) := by decide +kernel
theorem dX1_precedes_23 : decode cX1_precedes 23 = .ok (.getfield 9, 3) := by decide +kernel
theorem dX1_precedes_26 : decode cX1_precedes 26 = .ok (.iload_n 1, 1) := by decide +kernel
theorem dX1_precedes_27 : decode cX1_precedes 27 = .ok (.iaload, 1) := by decide +kernel
theorem dX1_precedes_28 : decode cX1_precedes 28 = .ok (.invokevirtual 50, 3) := by decide +kernel
theorem dX1_precedes_31 : decode cX1_precedes 31 = .ok (.aload_n 0, 1) := by decide +kernel
theorem dX1_precedes_32 : decode cX1_precedes 32 = .ok (.getfield 21, 3) := by decide +kernel
theorem dX1_precedes_35 : decode cX1_precedes 35 = .ok (.iload_n 1, 1) := by decide +kernel
theorem dX1_precedes_36 : decode cX1_precedes 36 = .ok (.iaload, 1) := by decide +kernel
theorem dX1_precedes_37 : decode cX1_precedes 37 = .ok (.if_icmp .lt 7, 3) := by decide +kernel
theorem dX1_precedes_40 : decode cX1_precedes 40 = .ok (.iconst 1, 1) := by decide +kernel
theorem dX1_precedes_41 : decode cX1_precedes 41 = .ok (.goto 4, 3) := by decide +kernel
theorem dX1_precedes_44 : decode cX1_precedes 44 = .ok (.iconst 0, 1) := by decide +kernel
theorem dX1_precedes_45 : decode cX1_precedes 45 = .ok (.ireturn, 1) := by decide +kernel
theorem dX1_greatestDepthBefore_0 : decode cX1_greatestDepthBefore 0 = .ok (.iconst 0, 1) := by decide +kernel
theorem dX1_greatestDepthBefore_1 : decode cX1_greatestDepthBefore 1 = .ok (.istore_n 2, 1) := by decide +kernel
theorem dX1_greatestDepthBefore_2 : decode cX1_greatestDepthBefore 2 = .ok (.iconst 0, 1) := by decide +kernel
theorem dX1_greatestDepthBefore_3 : decode cX1_greatestDepthBefore 3 = .ok (.istore_n 3, 1) := by decide +kernel
theorem dX1_greatestDepthBefore_4 : decode cX1_greatestDepthBefore 4 = .ok (.iload_n 3, 1) := by decide +kernel
theorem dX1_greatestDepthBefore_5 : decode cX1_greatestDepthBefore 5 = .ok (.iload_n 1, 1) := by decide +kernel
theorem dX1_greatestDepthBefore_6 : decode cX1_greatestDepthBefore 6 = .ok (.if_icmp .ge 29, 3) := by decide +kernel
theorem dX1_greatestDepthBefore_9 : decode cX1_greatestDepthBefore 9 = .ok (.aload_n 0, 1) := by decide +kernel
theorem dX1_greatestDepthBefore_10 : decode cX1_greatestDepthBefore 10 = .ok (.iload_n 3, 1) := by decide +kernel
theorem dX1_greatestDepthBefore_11 : decode cX1_greatestDepthBefore 11 = .ok (.iload_n 1, 1) := by decide +kernel
theorem dX1_greatestDepthBefore_12 : decode cX1_greatestDepthBefore 12 = .ok (.invokevirtual 53, 3) := by decide +kernel
theorem dX1_greatestDepthBefore_15 : decode cX1_greatestDepthBefore 15 = .ok (.ifCond .eq 14, 3) := by decide +kernel
theorem dX1_greatestDepthBefore_18 : decode cX1_greatestDepthBefore 18 = .ok (.iload_n 2, 1) := by decide +kernel
theorem dX1_greatestDepthBefore_19 : decode cX1_greatestDepthBefore 19 = .ok (.aload_n 0, 1) := by decide +kernel
theorem dX1_greatestDepthBefore_20 : decode cX1_greatestDepthBefore 20 = .ok (.getfield 24, 3) := by decide +kernel
theorem dX1_greatestDepthBefore_23 : decode cX1_greatestDepthBefore 23 = .ok (.iload_n 3, 1) := by decide +kernel
theorem dX1_greatestDepthBefore_24 : decode cX1_greatestDepthBefore 24 = .ok (.iaload, 1) := by decide +kernel
theorem dX1_greatestDepthBefore_25 : decode cX1_greatestDepthBefore 25 = .ok (.invokestatic 57, 3) := by decide +kernel
theorem dX1_greatestDepthBefore_28 : decode cX1_greatestDepthBefore 28 = .ok (.istore_n 2, 1) := by decide +kernel
theorem dX1_greatestDepthBefore_29 : decode cX1_greatestDepthBefore 29 = .ok (.iinc 3 1, 3) := by decide +kernel
theorem dX1_greatestDepthBefore_32 : decode cX1_greatestDepthBefore 32 = .ok (.goto (-28), 3) := by decide +kernel
theorem dX1_greatestDepthBefore_35 : decode cX1_greatestDepthBefore 35 = .ok (.iload_n 2, 1) := by decide +kernel
theorem dX1_greatestDepthBefore_36 : decode cX1_greatestDepthBefore 36 = .ok (.ireturn, 1) := by decide +kernel
theorem dX1_greatestDepth_0 : decode cX1_greatestDepth 0 = .ok (.iconst 0, 1) := by decide +kernel
theorem dX1_greatestDepth_1 : decode cX1_greatestDepth 1 = .ok (.istore_n 2, 1) := by decide +kernel
theorem dX1_greatestDepth_2 : decode cX1_greatestDepth 2 = .ok (.iconst 0, 1) := by decide +kernel
theorem dX1_greatestDepth_3 : decode cX1_greatestDepth 3 = .ok (.istore_n 3, 1) := by decide +kernel
theorem dX1_greatestDepth_4 : decode cX1_greatestDepth 4 = .ok (.iload_n 3, 1) := by decide +kernel
theorem dX1_greatestDepth_5 : decode cX1_greatestDepth 5 = .ok (.aload_n 0, 1) := by decide +kernel
theorem dX1_greatestDepth_6 : decode cX1_greatestDepth 6 = .ok (.getfield 30, 3) := by decide +kernel
theorem dX1_greatestDepth_9 : decode cX1_greatestDepth 9 = .ok (.if_icmp .ge 30, 3) := by decide +kernel
theorem dX1_greatestDepth_12 : decode cX1_greatestDepth 12 = .ok (.aload_n 0, 1) := by decide +kernel
theorem dX1_greatestDepth_13 : decode cX1_greatestDepth 13 = .ok (.getfield 18, 3) := by decide +kernel
theorem dX1_greatestDepth_16 : decode cX1_greatestDepth 16 = .ok (.iload_n 3, 1) := by decide +kernel
theorem dX1_greatestDepth_17 : decode cX1_greatestDepth 17 = .ok (.iaload, 1) := by decide +kernel
theorem dX1_greatestDepth_18 : decode cX1_greatestDepth 18 = .ok (.iload_n 1, 1) := by decide +kernel
theorem dX1_greatestDepth_19 : decode cX1_greatestDepth 19 = .ok (.if_icmp .ne 14, 3) := by decide +kernel
theorem dX1_greatestDepth_22 : decode cX1_greatestDepth 22 = .ok (.iload_n 2, 1) := by decide +kernel
theorem dX1_greatestDepth_23 : decode cX1_greatestDepth 23 = .ok (.aload_n 0, 1) := by decide +kernel
theorem dX1_greatestDepth_24 : decode cX1_greatestDepth 24 = .ok (.getfield 24, 3) := by decide +kernel
theorem dX1_greatestDepth_27 : decode cX1_greatestDepth 27 = .ok (.iload_n 3, 1) := by decide +kernel
theorem dX1_greatestDepth_28 : decode cX1_greatestDepth 28 = .ok (.iaload, 1) := by decide +kernel
theorem dX1_greatestDepth_29 : decode cX1_greatestDepth 29 = .ok (.invokestatic 57, 3) := by decide +kernel
theorem dX1_greatestDepth_32 : decode cX1_greatestDepth 32 = .ok (.istore_n 2, 1) := by decide +kernel
theorem dX1_greatestDepth_33 : decode cX1_greatestDepth 33 = .ok (.iinc 3 1, 3) := by decide +kernel
theorem dX1_greatestDepth_36 : decode cX1_greatestDepth 36 = .ok (.goto (-32), 3) := by decide +kernel
theorem dX1_greatestDepth_39 : decode cX1_greatestDepth 39 = .ok (.iload_n 2, 1) := by decide +kernel
theorem dX1_greatestDepth_40 : decode cX1_greatestDepth 40 = .ok (.ireturn, 1) := by decide +kernel
theorem dX1_countCauses_0 : decode cX1_countCauses 0 = .ok (.iconst 0, 1) := by decide +kernel
theorem dX1_countCauses_1 : decode cX1_countCauses 1 = .ok (.istore_n 2, 1) := by decide +kernel
theorem dX1_countCauses_2 : decode cX1_countCauses 2 = .ok (.iconst 0, 1) := by decide +kernel
theorem dX1_countCauses_3 : decode cX1_countCauses 3 = .ok (.istore_n 3, 1) := by decide +kernel
theorem dX1_countCauses_4 : decode cX1_countCauses 4 = .ok (.iload_n 3, 1) := by decide +kernel
theorem dX1_countCauses_5 : decode cX1_countCauses 5 = .ok (.aload_n 0, 1) := by decide +kernel
theorem dX1_countCauses_6 : decode cX1_countCauses 6 = .ok (.getfield 30, 3) := by decide +kernel
theorem dX1_countCauses_9 : decode cX1_countCauses 9 = .ok (.if_icmp .ge 21, 3) := by decide +kernel
theorem dX1_countCauses_12 : decode cX1_countCauses 12 = .ok (.aload_n 0, 1) := by decide +kernel
theorem dX1_countCauses_13 : decode cX1_countCauses 13 = .ok (.iload_n 3, 1) := by decide +kernel
theorem dX1_countCauses_14 : decode cX1_countCauses 14 = .ok (.iload_n 1, 1) := by decide +kernel
theorem dX1_countCauses_15 : decode cX1_countCauses 15 = .ok (.invokevirtual 53, 3) := by decide +kernel
theorem dX1_countCauses_18 : decode cX1_countCauses 18 = .ok (.ifCond .eq 6, 3) := by decide +kernel
theorem dX1_countCauses_21 : decode cX1_countCauses 21 = .ok (.iinc 2 1, 3) := by decide +kernel
theorem dX1_countCauses_24 : decode cX1_countCauses 24 = .ok (.iinc 3 1, 3) := by decide +kernel
theorem dX1_countCauses_27 : decode cX1_countCauses 27 = .ok (.goto (-23), 3) := by decide +kernel
theorem dX1_countCauses_30 : decode cX1_countCauses 30 = .ok (.iload_n 2, 1) := by decide +kernel
theorem dX1_countCauses_31 : decode cX1_countCauses 31 = .ok (.ireturn, 1) := by decide +kernel
theorem dX1_countConcurrent_0 : decode cX1_countConcurrent 0 = .ok (.iconst 0, 1) := by decide +kernel
theorem dX1_countConcurrent_1 : decode cX1_countConcurrent 1 = .ok (.istore_n 2, 1) := by decide +kernel
theorem dX1_countConcurrent_2 : decode cX1_countConcurrent 2 = .ok (.iconst 0, 1) := by decide +kernel
theorem dX1_countConcurrent_3 : decode cX1_countConcurrent 3 = .ok (.istore_n 3, 1) := by decide +kernel
theorem dX1_countConcurrent_4 : decode cX1_countConcurrent 4 = .ok (.iload_n 3, 1) := by decide +kernel
theorem dX1_countConcurrent_5 : decode cX1_countConcurrent 5 = .ok (.aload_n 0, 1) := by decide +kernel
theorem dX1_countConcurrent_6 : decode cX1_countConcurrent 6 = .ok (.getfield 30, 3) := by decide +kernel
theorem dX1_countConcurrent_9 : decode cX1_countConcurrent 9 = .ok (.if_icmp .ge 50, 3) := by decide +kernel
theorem dX1_countConcurrent_12 : decode cX1_countConcurrent 12 = .ok (.iload_n 3, 1) := by decide +kernel
theorem dX1_countConcurrent_13 : decode cX1_countConcurrent 13 = .ok (.iload_n 1, 1) := by decide +kernel
theorem dX1_countConcurrent_14 : decode cX1_countConcurrent 14 = .ok (.if_icmp .eq 39, 3) := by decide +kernel
theorem dX1_countConcurrent_17 : decode cX1_countConcurrent 17 = .ok (.aload_n 0, 1) := by decide +kernel
theorem dX1_countConcurrent_18 : decode cX1_countConcurrent 18 = .ok (.getfield 18, 3) := by decide +kernel
theorem dX1_countConcurrent_21 : decode cX1_countConcurrent 21 = .ok (.iload_n 3, 1) := by decide +kernel
theorem dX1_countConcurrent_22 : decode cX1_countConcurrent 22 = .ok (.iaload, 1) := by decide +kernel
theorem dX1_countConcurrent_23 : decode cX1_countConcurrent 23 = .ok (.aload_n 0, 1) := by decide +kernel
theorem dX1_countConcurrent_24 : decode cX1_countConcurrent 24 = .ok (.getfield 18, 3) := by decide +kernel
theorem dX1_countConcurrent_27 : decode cX1_countConcurrent 27 = .ok (.iload_n 1, 1) := by decide +kernel
theorem dX1_countConcurrent_28 : decode cX1_countConcurrent 28 = .ok (.iaload, 1) := by decide +kernel
theorem dX1_countConcurrent_29 : decode cX1_countConcurrent 29 = .ok (.if_icmp .ne 24, 3) := by decide +kernel
theorem dX1_countConcurrent_32 : decode cX1_countConcurrent 32 = .ok (.aload_n 0, 1) := by decide +kernel
theorem dX1_countConcurrent_33 : decode cX1_countConcurrent 33 = .ok (.iload_n 3, 1) := by decide +kernel
theorem dX1_countConcurrent_34 : decode cX1_countConcurrent 34 = .ok (.iload_n 1, 1) := by decide +kernel
theorem dX1_countConcurrent_35 : decode cX1_countConcurrent 35 = .ok (.invokevirtual 53, 3) := by decide +kernel
theorem dX1_countConcurrent_38 : decode cX1_countConcurrent 38 = .ok (.ifCond .ne 15, 3) := by decide +kernel
theorem dX1_countConcurrent_41 : decode cX1_countConcurrent 41 = .ok (.aload_n 0, 1) := by decide +kernel
theorem dX1_countConcurrent_42 : decode cX1_countConcurrent 42 = .ok (.iload_n 1, 1) := by decide +kernel
theorem dX1_countConcurrent_43 : decode cX1_countConcurrent 43 = .ok (.iload_n 3, 1) := by decide +kernel
theorem dX1_countConcurrent_44 : decode cX1_countConcurrent 44 = .ok (.invokevirtual 53, 3) := by decide +kernel
theorem dX1_countConcurrent_47 : decode cX1_countConcurrent 47 = .ok (.ifCond .ne 6, 3) := by decide +kernel
theorem dX1_countConcurrent_50 : decode cX1_countConcurrent 50 = .ok (.iinc 2 1, 3) := by decide +kernel
theorem dX1_countConcurrent_53 : decode cX1_countConcurrent 53 = .ok (.iinc 3 1, 3) := by decide +kernel
theorem dX1_countConcurrent_56 : decode cX1_countConcurrent 56 = .ok (.goto (-52), 3) := by decide +kernel
theorem dX1_countConcurrent_59 : decode cX1_countConcurrent 59 = .ok (.iload_n 2, 1) := by decide +kernel
theorem dX1_countConcurrent_60 : decode cX1_countConcurrent 60 = .ok (.ireturn, 1) := by decide +kernel
theorem dX1_copyFrom_0 : decode cX1_copyFrom 0 = .ok (.aload_n 1, 1) := by decide +kernel
theorem dX1_copyFrom_1 : decode cX1_copyFrom 1 = .ok (.getfield 9, 3) := by decide +kernel
theorem dX1_copyFrom_4 : decode cX1_copyFrom 4 = .ok (.aload_n 0, 1) := by decide +kernel
theorem dX1_copyFrom_5 : decode cX1_copyFrom 5 = .ok (.getfield 9, 3) := by decide +kernel
theorem dX1_copyFrom_8 : decode cX1_copyFrom 8 = .ok (.invokestatic 62, 3) := by decide +kernel
theorem dX1_copyFrom_11 : decode cX1_copyFrom 11 = .ok (.aload_n 1, 1) := by decide +kernel
theorem dX1_copyFrom_12 : decode cX1_copyFrom 12 = .ok (.getfield 15, 3) := by decide +kernel
theorem dX1_copyFrom_15 : decode cX1_copyFrom 15 = .ok (.aload_n 0, 1) := by decide +kernel
theorem dX1_copyFrom_16 : decode cX1_copyFrom 16 = .ok (.getfield 15, 3) := by decide +kernel
theorem dX1_copyFrom_19 : decode cX1_copyFrom 19 = .ok (.invokestatic 62, 3) := by decide +kernel
theorem dX1_copyFrom_22 : decode cX1_copyFrom 22 = .ok (.aload_n 1, 1) := by decide +kernel
theorem dX1_copyFrom_23 : decode cX1_copyFrom 23 = .ok (.getfield 18, 3) := by decide +kernel
theorem dX1_copyFrom_26 : decode cX1_copyFrom 26 = .ok (.aload_n 0, 1) := by decide +kernel
theorem dX1_copyFrom_27 : decode cX1_copyFrom 27 = .ok (.getfield 18, 3) := by decide +kernel
theorem dX1_copyFrom_30 : decode cX1_copyFrom 30 = .ok (.invokestatic 62, 3) := by decide +kernel
theorem dX1_copyFrom_33 : decode cX1_copyFrom 33 = .ok (.aload_n 1, 1) := by decide +kernel
theorem dX1_copyFrom_34 : decode cX1_copyFrom 34 = .ok (.getfield 21, 3) := by decide +kernel
theorem dX1_copyFrom_37 : decode cX1_copyFrom 37 = .ok (.aload_n 0, 1) := by decide +kernel
theorem dX1_copyFrom_38 : decode cX1_copyFrom 38 = .ok (.getfield 21, 3) := by decide +kernel
theorem dX1_copyFrom_41 : decode cX1_copyFrom 41 = .ok (.invokestatic 62, 3) := by decide +kernel
theorem dX1_copyFrom_44 : decode cX1_copyFrom 44 = .ok (.aload_n 1, 1) := by decide +kernel
theorem dX1_copyFrom_45 : decode cX1_copyFrom 45 = .ok (.getfield 24, 3) := by decide +kernel
theorem dX1_copyFrom_48 : decode cX1_copyFrom 48 = .ok (.aload_n 0, 1) := by decide +kernel
theorem dX1_copyFrom_49 : decode cX1_copyFrom 49 = .ok (.getfield 24, 3) := by decide +kernel
theorem dX1_copyFrom_52 : decode cX1_copyFrom 52 = .ok (.invokestatic 62, 3) := by decide +kernel
theorem dX1_copyFrom_55 : decode cX1_copyFrom 55 = .ok (.aload_n 1, 1) := by decide +kernel
theorem dX1_copyFrom_56 : decode cX1_copyFrom 56 = .ok (.getfield 27, 3) := by decide +kernel
theorem dX1_copyFrom_59 : decode cX1_copyFrom 59 = .ok (.aload_n 0, 1) := by decide +kernel
theorem dX1_copyFrom_60 : decode cX1_copyFrom 60 = .ok (.getfield 27, 3) := by decide +kernel
theorem dX1_copyFrom_63 : decode cX1_copyFrom 63 = .ok (.invokestatic 62, 3) := by decide +kernel
theorem dX1_copyFrom_66 : decode cX1_copyFrom 66 = .ok (.aload_n 0, 1) := by decide +kernel
theorem dX1_copyFrom_67 : decode cX1_copyFrom 67 = .ok (.aload_n 1, 1) := by decide +kernel
theorem dX1_copyFrom_68 : decode cX1_copyFrom 68 = .ok (.getfield 30, 3) := by decide +kernel
theorem dX1_copyFrom_71 : decode cX1_copyFrom 71 = .ok (.putfield 30, 3) := by decide +kernel
theorem dX1_copyFrom_74 : decode cX1_copyFrom 74 = .ok (.return_, 1) := by decide +kernel
theorem dX2_init_0 : decode cX2_init 0 = .ok (.aload_n 0, 1) := by decide +kernel
theorem dX2_init_1 : decode cX2_init 1 = .ok (.invokespecial 3, 3) := by decide +kernel
theorem dX2_init_4 : decode cX2_init 4 = .ok (.aload_n 0, 1) := by decide +kernel
theorem dX2_init_5 : decode cX2_init 5 = .ok (.sipush 150, 3) := by decide +kernel
theorem dX2_init_8 : decode cX2_init 8 = .ok (.newarray .int, 2) := by decide +kernel
theorem dX2_init_10 : decode cX2_init 10 = .ok (.putfield 9, 3) := by decide +kernel
theorem dX2_init_13 : decode cX2_init 13 = .ok (.aload_n 0, 1) := by decide +kernel
theorem dX2_init_14 : decode cX2_init 14 = .ok (.sipush 150, 3) := by decide +kernel
theorem dX2_init_17 : decode cX2_init 17 = .ok (.newarray .int, 2) := by decide +kernel
theorem dX2_init_19 : decode cX2_init 19 = .ok (.putfield 15, 3) := by decide +kernel
theorem dX2_init_22 : decode cX2_init 22 = .ok (.aload_n 0, 1) := by decide +kernel
theorem dX2_init_23 : decode cX2_init 23 = .ok (.bipush 36, 2) := by decide +kernel
theorem dX2_init_25 : decode cX2_init 25 = .ok (.newarray .int, 2) := by decide +kernel
theorem dX2_init_27 : decode cX2_init 27 = .ok (.putfield 18, 3) := by decide +kernel
theorem dX2_init_30 : decode cX2_init 30 = .ok (.aload_n 0, 1) := by decide +kernel
theorem dX2_init_31 : decode cX2_init 31 = .ok (.iconst 0, 1) := by decide +kernel
theorem dX2_init_32 : decode cX2_init 32 = .ok (.putfield 21, 3) := by decide +kernel
theorem dX2_init_35 : decode cX2_init 35 = .ok (.aload_n 0, 1) := by decide +kernel
theorem dX2_init_36 : decode cX2_init 36 = .ok (.iconst 0, 1) := by decide +kernel
theorem dX2_init_37 : decode cX2_init 37 = .ok (.putfield 25, 3) := by decide +kernel
theorem dX2_init_40 : decode cX2_init 40 = .ok (.aload_n 0, 1) := by decide +kernel
theorem dX2_init_41 : decode cX2_init 41 = .ok (.iload_n 1, 1) := by decide +kernel
theorem dX2_init_42 : decode cX2_init 42 = .ok (.putfield 28, 3) := by decide +kernel
theorem dX2_init_45 : decode cX2_init 45 = .ok (.return_, 1) := by decide +kernel
theorem dX2_startAnew_0 : decode cX2_startAnew 0 = .ok (.aload_n 0, 1) := by decide +kernel
theorem dX2_startAnew_1 : decode cX2_startAnew 1 = .ok (.getfield 15, 3) := by decide +kernel
theorem dX2_startAnew_4 : decode cX2_startAnew 4 = .ok (.bipush (-2), 2) := by decide +kernel
theorem dX2_startAnew_6 : decode cX2_startAnew 6 = .ok (.invokestatic 31, 3) := by decide +kernel
theorem dX2_startAnew_9 : decode cX2_startAnew 9 = .ok (.aload_n 0, 1) := by decide +kernel
theorem dX2_startAnew_10 : decode cX2_startAnew 10 = .ok (.iconst 0, 1) := by decide +kernel
theorem dX2_startAnew_11 : decode cX2_startAnew 11 = .ok (.putfield 21, 3) := by decide +kernel
theorem dX2_startAnew_14 : decode cX2_startAnew 14 = .ok (.aload_n 0, 1) := by decide +kernel
theorem dX2_startAnew_15 : decode cX2_startAnew 15 = .ok (.iconst 0, 1) := by decide +kernel
theorem dX2_startAnew_16 : decode cX2_startAnew 16 = .ok (.putfield 25, 3) := by decide +kernel
theorem dX2_startAnew_19 : decode cX2_startAnew 19 = .ok (.aload_n 0, 1) := by decide +kernel
theorem dX2_startAnew_20 : decode cX2_startAnew 20 = .ok (.invokevirtual 37, 3) := by decide +kernel
theorem dX2_startAnew_23 : decode cX2_startAnew 23 = .ok (.return_, 1) := by decide +kernel
theorem dX2_forgetTable_0 : decode cX2_forgetTable 0 = .ok (.aload_n 0, 1) := by decide +kernel
theorem dX2_forgetTable_1 : decode cX2_forgetTable 1 = .ok (.getfield 18, 3) := by decide +kernel
theorem dX2_forgetTable_4 : decode cX2_forgetTable 4 = .ok (.iconst 0, 1) := by decide +kernel
theorem dX2_forgetTable_5 : decode cX2_forgetTable 5 = .ok (.invokestatic 31, 3) := by decide +kernel
theorem dX2_forgetTable_8 : decode cX2_forgetTable 8 = .ok (.return_, 1) := by decide +kernel
theorem dX2_hasLogged_0 : decode cX2_hasLogged 0 = .ok (.aload_n 0, 1) := by decide +kernel
theorem dX2_hasLogged_1 : decode cX2_hasLogged 1 = .ok (.getfield 15, 3) := by decide +kernel
theorem dX2_hasLogged_4 : decode cX2_hasLogged 4 = .ok (.iload_n 1, 1) := by decide +kernel
theorem dX2_hasLogged_5 : decode cX2_hasLogged 5 = .ok (.iaload, 1) := by decide +kernel
theorem dX2_hasLogged_6 : decode cX2_hasLogged 6 = .ok (.ifCond .lt 7, 3) := by decide +kernel
theorem dX2_hasLogged_9 : decode cX2_hasLogged 9 = .ok (.iconst 1, 1) := by decide +kernel
theorem dX2_hasLogged_10 : decode cX2_hasLogged 10 = .ok (.goto 4, 3) := by decide +kernel
theorem dX2_hasLogged_13 : decode cX2_hasLogged 13 = .ok (.iconst 0, 1) := by decide +kernel
theorem dX2_hasLogged_14 : decode cX2_hasLogged 14 = .ok (.ireturn, 1) := by decide +kernel
theorem dX2_heard_0 : decode cX2_heard 0 = .ok (.aload_n 0, 1) := by decide +kernel
theorem dX2_heard_1 : decode cX2_heard 1 = .ok (.getfield 18, 3) := by decide +kernel
theorem dX2_heard_4 : decode cX2_heard 4 = .ok (.iload_n 1, 1) := by decide +kernel
theorem dX2_heard_5 : decode cX2_heard 5 = .ok (.bipush 6, 2) := by decide +kernel
theorem dX2_heard_7 : decode cX2_heard 7 = .ok (.imul, 1) := by decide +kernel
theorem dX2_heard_8 : decode cX2_heard 8 = .ok (.iload_n 2, 1) := by decide +kernel
theorem dX2_heard_9 : decode cX2_heard 9 = .ok (.iadd, 1) := by decide +kernel
theorem dX2_heard_10 : decode cX2_heard 10 = .ok (.iaload, 1) := by decide +kernel
theorem dX2_heard_11 : decode cX2_heard 11 = .ok (.ireturn, 1) := by decide +kernel
theorem dX2_entry_0 : decode cX2_entry 0 = .ok (.aload_n 0, 1) := by decide +kernel
theorem dX2_entry_1 : decode cX2_entry 1 = .ok (.aload_n 0, 1) := by decide +kernel
theorem dX2_entry_2 : decode cX2_entry 2 = .ok (.getfield 28, 3) := by decide +kernel
theorem dX2_entry_5 : decode cX2_entry 5 = .ok (.iload_n 1, 1) := by decide +kernel
theorem dX2_entry_6 : decode cX2_entry 6 = .ok (.invokevirtual 40, 3) := by decide +kernel
theorem dX2_entry_9 : decode cX2_entry 9 = .ok (.ireturn, 1) := by decide +kernel
theorem dX2_deliver_0 : decode cX2_deliver 0 = .ok (.aload_n 0, 1) := by decide +kernel
theorem dX2_deliver_1 : decode cX2_deliver 1 = .ok (.getfield 21, 3) := by decide +kernel
theorem dX2_deliver_4 : decode cX2_deliver 4 = .ok (.sipush 150, 3) := by decide +kernel
theorem dX2_deliver_7 : decode cX2_deliver 7 = .ok (.if_icmp .lt 4, 3) := by decide +kernel
theorem dX2_deliver_10 : decode cX2_deliver 10 = .ok (.return_, 1) := by decide +kernel
theorem dX2_deliver_11 : decode cX2_deliver 11 = .ok (.aload_n 0, 1) := by decide +kernel
theorem dX2_deliver_12 : decode cX2_deliver 12 = .ok (.getfield 9, 3) := by decide +kernel
theorem dX2_deliver_15 : decode cX2_deliver 15 = .ok (.aload_n 0, 1) := by decide +kernel
theorem dX2_deliver_16 : decode cX2_deliver 16 = .ok (.getfield 21, 3) := by decide +kernel
theorem dX2_deliver_19 : decode cX2_deliver 19 = .ok (.iload_n 1, 1) := by decide +kernel
theorem dX2_deliver_20 : decode cX2_deliver 20 = .ok (.iastore, 1) := by decide +kernel
theorem dX2_deliver_21 : decode cX2_deliver 21 = .ok (.aload_n 0, 1) := by decide +kernel
theorem dX2_deliver_22 : decode cX2_deliver 22 = .ok (.getfield 15, 3) := by decide +kernel
theorem dX2_deliver_25 : decode cX2_deliver 25 = .ok (.iload_n 1, 1) := by decide +kernel
theorem dX2_deliver_26 : decode cX2_deliver 26 = .ok (.aload_n 0, 1) := by decide +kernel
theorem dX2_deliver_27 : decode cX2_deliver 27 = .ok (.getfield 21, 3) := by decide +kernel
theorem dX2_deliver_30 : decode cX2_deliver 30 = .ok (.iastore, 1) := by decide +kernel
theorem dX2_deliver_31 : decode cX2_deliver 31 = .ok (.aload_n 0, 1) := by decide +kernel
theorem dX2_deliver_32 : decode cX2_deliver 32 = .ok (.dup, 1) := by decide +kernel
theorem dX2_deliver_33 : decode cX2_deliver 33 = .ok (.getfield 21, 3) := by decide +kernel
theorem dX2_deliver_36 : decode cX2_deliver 36 = .ok (.iconst 1, 1) := by decide +kernel
theorem dX2_deliver_37 : decode cX2_deliver 37 = .ok (.iadd, 1) := by decide +kernel
theorem dX2_deliver_38 : decode cX2_deliver 38 = .ok (.putfield 21, 3) := by decide +kernel
theorem dX2_deliver_41 : decode cX2_deliver 41 = .ok (.aload_n 0, 1) := by decide +kernel
theorem dX2_deliver_42 : decode cX2_deliver 42 = .ok (.bipush 31, 2) := by decide +kernel
theorem dX2_deliver_44 : decode cX2_deliver 44 = .ok (.aload_n 0, 1) := by decide +kernel
theorem dX2_deliver_45 : decode cX2_deliver 45 = .ok (.getfield 25, 3) := by decide +kernel
theorem dX2_deliver_48 : decode cX2_deliver 48 = .ok (.imul, 1) := by decide +kernel
theorem dX2_deliver_49 : decode cX2_deliver 49 = .ok (.iload_n 3, 1) := by decide +kernel
theorem dX2_deliver_50 : decode cX2_deliver 50 = .ok (.iadd, 1) := by decide +kernel
theorem dX2_deliver_51 : decode cX2_deliver 51 = .ok (.putfield 25, 3) := by decide +kernel
theorem dX2_deliver_54 : decode cX2_deliver 54 = .ok (.aload_n 0, 1) := by decide +kernel
theorem dX2_deliver_55 : decode cX2_deliver 55 = .ok (.getfield 18, 3) := by decide +kernel
theorem dX2_deliver_58 : decode cX2_deliver 58 = .ok (.aload_n 0, 1) := by decide +kernel
theorem dX2_deliver_59 : decode cX2_deliver 59 = .ok (.getfield 28, 3) := by decide +kernel
theorem dX2_deliver_62 : decode cX2_deliver 62 = .ok (.bipush 6, 2) := by decide +kernel
theorem dX2_deliver_64 : decode cX2_deliver 64 = .ok (.imul, 1) := by decide +kernel
theorem dX2_deliver_65 : decode cX2_deliver 65 = .ok (.iload_n 2, 1) := by decide +kernel
theorem dX2_deliver_66 : decode cX2_deliver 66 = .ok (.iadd, 1) := by decide +kernel
theorem dX2_deliver_67 : decode cX2_deliver 67 = .ok (.dup2, 1) := by decide +kernel
theorem dX2_deliver_68 : decode cX2_deliver 68 = .ok (.iaload, 1) := by decide +kernel
theorem dX2_deliver_69 : decode cX2_deliver 69 = .ok (.iconst 1, 1) := by decide +kernel
theorem dX2_deliver_70 : decode cX2_deliver 70 = .ok (.iadd, 1) := by decide +kernel
theorem dX2_deliver_71 : decode cX2_deliver 71 = .ok (.iastore, 1) := by decide +kernel
theorem dX2_deliver_72 : decode cX2_deliver 72 = .ok (.return_, 1) := by decide +kernel
theorem dX2_isReadyFor_0 : decode cX2_isReadyFor 0 = .ok (.aload_n 1, 1) := by decide +kernel
theorem dX2_isReadyFor_1 : decode cX2_isReadyFor 1 = .ok (.getfield 44, 3) := by decide +kernel
theorem dX2_isReadyFor_4 : decode cX2_isReadyFor 4 = .ok (.iload_n 2, 1) := by decide +kernel
theorem dX2_isReadyFor_5 : decode cX2_isReadyFor 5 = .ok (.iaload, 1) := by decide +kernel
theorem dX2_isReadyFor_6 : decode cX2_isReadyFor 6 = .ok (.istore_n 3, 1) := by decide +kernel
theorem dX2_isReadyFor_7 : decode cX2_isReadyFor 7 = .ok (.aload_n 0, 1) := by decide +kernel
theorem dX2_isReadyFor_8 : decode cX2_isReadyFor 8 = .ok (.iload_n 2, 1) := by decide +kernel
theorem dX2_isReadyFor_9 : decode cX2_isReadyFor 9 = .ok (.invokevirtual 49, 3) := by decide +kernel
theorem dX2_isReadyFor_12 : decode cX2_isReadyFor 12 = .ok (.ifCond .ne 19, 3) := by decide +kernel
theorem dX2_isReadyFor_15 : decode cX2_isReadyFor 15 = .ok (.aload_n 1, 1) := by decide +kernel
theorem dX2_isReadyFor_16 : decode cX2_isReadyFor 16 = .ok (.getfield 53, 3) := by decide +kernel
theorem dX2_isReadyFor_19 : decode cX2_isReadyFor 19 = .ok (.iload_n 2, 1) := by decide +kernel
theorem dX2_isReadyFor_20 : decode cX2_isReadyFor 20 = .ok (.iaload, 1) := by decide +kernel
theorem dX2_isReadyFor_21 : decode cX2_isReadyFor 21 = .ok (.iconst 1, 1) := by decide +kernel
theorem dX2_isReadyFor_22 : decode cX2_isReadyFor 22 = .ok (.aload_n 0, 1) := by decide +kernel
theorem dX2_isReadyFor_23 : decode cX2_isReadyFor 23 = .ok (.iload_n 3, 1) := by decide +kernel
theorem dX2_isReadyFor_24 : decode cX2_isReadyFor 24 = .ok (.invokevirtual 56, 3) := by decide +kernel
theorem dX2_isReadyFor_27 : decode cX2_isReadyFor 27 = .ok (.iadd, 1) := by decide +kernel
theorem dX2_isReadyFor_28 : decode cX2_isReadyFor 28 = .ok (.if_icmp .eq 5, 3) := by decide +kernel
theorem dX2_isReadyFor_31 : decode cX2_isReadyFor 31 = .ok (.iconst 0, 1) := by decide +kernel
theorem dX2_isReadyFor_32 : decode cX2_isReadyFor 32 = .ok (.ireturn, 1) := by decide +kernel
theorem dX2_isReadyFor_33 : decode cX2_isReadyFor 33 = .ok (.iconst 0, 1) := by decide +kernel
theorem dX2_isReadyFor_34 : decode cX2_isReadyFor 34 = .ok (.istore 4, 2) := by decide +kernel
theorem dX2_isReadyFor_36 : decode cX2_isReadyFor 36 = .ok (.iload 4, 2) := by decide +kernel
theorem dX2_isReadyFor_38 : decode cX2_isReadyFor 38 = .ok (.bipush 6, 2) := by decide +kernel
theorem dX2_isReadyFor_40 : decode cX2_isReadyFor 40 = .ok (.if_icmp .ge 33, 3) := by decide +kernel
theorem dX2_isReadyFor_43 : decode cX2_isReadyFor 43 = .ok (.iload 4, 2) := by decide +kernel
theorem dX2_isReadyFor_45 : decode cX2_isReadyFor 45 = .ok (.iload_n 3, 1) := by decide +kernel
theorem dX2_isReadyFor_46 : decode cX2_isReadyFor 46 = .ok (.if_icmp .eq 21, 3) := by decide +kernel
theorem dX2_isReadyFor_49 : decode cX2_isReadyFor 49 = .ok (.aload_n 1, 1) := by decide +kernel
theorem dX2_isReadyFor_50 : decode cX2_isReadyFor 50 = .ok (.iload_n 2, 1) := by decide +kernel
theorem dX2_isReadyFor_51 : decode cX2_isReadyFor 51 = .ok (.iload 4, 2) := by decide +kernel
theorem dX2_isReadyFor_53 : decode cX2_isReadyFor 53 = .ok (.invokevirtual 60, 3) := by decide +kernel
theorem dX2_isReadyFor_56 : decode cX2_isReadyFor 56 = .ok (.aload_n 0, 1) := by decide +kernel
theorem dX2_isReadyFor_57 : decode cX2_isReadyFor 57 = .ok (.iload 4, 2) := by decide +kernel
theorem dX2_isReadyFor_59 : decode cX2_isReadyFor 59 = .ok (.invokevirtual 56, 3) := by decide +kernel
theorem dX2_isReadyFor_62 : decode cX2_isReadyFor 62 = .ok (.if_icmp .le 5, 3) := by decide +kernel
theorem dX2_isReadyFor_65 : decode cX2_isReadyFor 65 = .ok (.iconst 0, 1) := by decide +kernel
theorem dX2_isReadyFor_66 : decode cX2_isReadyFor 66 = .ok (.ireturn, 1) := by decide +kernel
theorem dX2_isReadyFor_67 : decode cX2_isReadyFor 67 = .ok (.iinc 4 1, 3) := by decide +kernel
theorem dX2_isReadyFor_70 : decode cX2_isReadyFor 70 = .ok (.goto (-34), 3) := by decide +kernel
theorem dX2_isReadyFor_73 : decode cX2_isReadyFor 73 = .ok (.iconst 1, 1) := by decide +kernel
theorem dX2_isReadyFor_74 : decode cX2_isReadyFor 74 = .ok (.ireturn, 1) := by decide +kernel
theorem dX2_learnFromClock_0 : decode cX2_learnFromClock 0 = .ok (.aload_n 1, 1) := by decide +kernel
theorem dX2_learnFromClock_1 : decode cX2_learnFromClock 1 = .ok (.getfield 44, 3) := by decide +kernel
theorem dX2_learnFromClock_4 : decode cX2_learnFromClock 4 = .ok (.iload_n 2, 1) := by decide +kernel
theorem dX2_learnFromClock_5 : decode cX2_learnFromClock 5 = .ok (.iaload, 1) := by decide +kernel
theorem dX2_learnFromClock_6 : decode cX2_learnFromClock 6 = .ok (.bipush 6, 2) := by decide +kernel
theorem dX2_learnFromClock_8 : decode cX2_learnFromClock 8 = .ok (.imul, 1) := by decide +kernel
theorem dX2_learnFromClock_9 : decode cX2_learnFromClock 9 = .ok (.istore_n 3, 1) := by decide +kernel
theorem dX2_learnFromClock_10 : decode cX2_learnFromClock 10 = .ok (.iconst 0, 1) := by decide +kernel
theorem dX2_learnFromClock_11 : decode cX2_learnFromClock 11 = .ok (.istore 4, 2) := by decide +kernel
theorem dX2_learnFromClock_13 : decode cX2_learnFromClock 13 = .ok (.iload 4, 2) := by decide +kernel
theorem dX2_learnFromClock_15 : decode cX2_learnFromClock 15 = .ok (.bipush 6, 2) := by decide +kernel
theorem dX2_learnFromClock_17 : decode cX2_learnFromClock 17 = .ok (.if_icmp .ge 43, 3) := by decide +kernel
theorem dX2_learnFromClock_20 : decode cX2_learnFromClock 20 = .ok (.aload_n 1, 1) := by decide +kernel
theorem dX2_learnFromClock_21 : decode cX2_learnFromClock 21 = .ok (.iload_n 2, 1) := by decide +kernel
theorem dX2_learnFromClock_22 : decode cX2_learnFromClock 22 = .ok (.iload 4, 2) := by decide +kernel
theorem dX2_learnFromClock_24 : decode cX2_learnFromClock 24 = .ok (.invokevirtual 60, 3) := by decide +kernel
theorem dX2_learnFromClock_27 : decode cX2_learnFromClock 27 = .ok (.istore 5, 2) := by decide +kernel
theorem dX2_learnFromClock_29 : decode cX2_learnFromClock 29 = .ok (.iload 5, 2) := by decide +kernel
theorem dX2_learnFromClock_31 : decode cX2_learnFromClock 31 = .ok (.aload_n 0, 1) := by decide +kernel
theorem dX2_learnFromClock_32 : decode cX2_learnFromClock 32 = .ok (.getfield 18, 3) := by decide +kernel
theorem dX2_learnFromClock_35 : decode cX2_learnFromClock 35 = .ok (.iload_n 3, 1) := by decide +kernel
theorem dX2_learnFromClock_36 : decode cX2_learnFromClock 36 = .ok (.iload 4, 2) := by decide +kernel
theorem dX2_learnFromClock_38 : decode cX2_learnFromClock 38 = .ok (.iadd, 1) := by decide +kernel
theorem dX2_learnFromClock_39 : decode cX2_learnFromClock 39 = .ok (.iaload, 1) := by decide +kernel
theorem dX2_learnFromClock_40 : decode cX2_learnFromClock 40 = .ok (.if_icmp .le 14, 3) := by decide +kernel
theorem dX2_learnFromClock_43 : decode cX2_learnFromClock 43 = .ok (.aload_n 0, 1) := by decide +kernel
theorem dX2_learnFromClock_44 : decode cX2_learnFromClock 44 = .ok (.getfield 18, 3) := by decide +kernel
theorem dX2_learnFromClock_47 : decode cX2_learnFromClock 47 = .ok (.iload_n 3, 1) := by decide +kernel
theorem dX2_learnFromClock_48 : decode cX2_learnFromClock 48 = .ok (.iload 4, 2) := by decide +kernel
theorem dX2_learnFromClock_50 : decode cX2_learnFromClock 50 = .ok (.iadd, 1) := by decide +kernel
theorem dX2_learnFromClock_51 : decode cX2_learnFromClock 51 = .ok (.iload 5, 2) := by decide +kernel
theorem dX2_learnFromClock_53 : decode cX2_learnFromClock 53 = .ok (.iastore, 1) := by decide +kernel
theorem dX2_learnFromClock_54 : decode cX2_learnFromClock 54 = .ok (.iinc 4 1, 3) := by decide +kernel
theorem dX2_learnFromClock_57 : decode cX2_learnFromClock 57 = .ok (.goto (-44), 3) := by decide +kernel
theorem dX2_learnFromClock_60 : decode cX2_learnFromClock 60 = .ok (.return_, 1) := by decide +kernel
theorem dX2_learnFromTable_0 : decode cX2_learnFromTable 0 = .ok (.iconst 0, 1) := by decide +kernel
theorem dX2_learnFromTable_1 : decode cX2_learnFromTable 1 = .ok (.istore_n 2, 1) := by decide +kernel
theorem dX2_learnFromTable_2 : decode cX2_learnFromTable 2 = .ok (.iconst 0, 1) := by decide +kernel
theorem dX2_learnFromTable_3 : decode cX2_learnFromTable 3 = .ok (.istore_n 3, 1) := by decide +kernel
theorem dX2_learnFromTable_4 : decode cX2_learnFromTable 4 = .ok (.iload_n 3, 1) := by decide +kernel
theorem dX2_learnFromTable_5 : decode cX2_learnFromTable 5 = .ok (.bipush 36, 2) := by decide +kernel
theorem dX2_learnFromTable_7 : decode cX2_learnFromTable 7 = .ok (.if_icmp .ge 50, 3) := by decide +kernel
theorem dX2_learnFromTable_10 : decode cX2_learnFromTable 10 = .ok (.iload_n 3, 1) := by decide +kernel
theorem dX2_learnFromTable_11 : decode cX2_learnFromTable 11 = .ok (.bipush 6, 2) := by decide +kernel
theorem dX2_learnFromTable_13 : decode cX2_learnFromTable 13 = .ok (.idiv, 1) := by decide +kernel
theorem dX2_learnFromTable_14 : decode cX2_learnFromTable 14 = .ok (.aload_n 0, 1) := by decide +kernel
theorem dX2_learnFromTable_15 : decode cX2_learnFromTable 15 = .ok (.getfield 28, 3) := by decide +kernel
theorem dX2_learnFromTable_18 : decode cX2_learnFromTable 18 = .ok (.if_icmp .eq 33, 3) := by decide +kernel
theorem dX2_learnFromTable_21 : decode cX2_learnFromTable 21 = .ok (.aload_n 1, 1) := by decide +kernel
theorem dX2_learnFromTable_22 : decode cX2_learnFromTable 22 = .ok (.getfield 18, 3) := by decide +kernel
theorem dX2_learnFromTable_25 : decode cX2_learnFromTable 25 = .ok (.iload_n 3, 1) := by decide +kernel
theorem dX2_learnFromTable_26 : decode cX2_learnFromTable 26 = .ok (.iaload, 1) := by decide +kernel
theorem dX2_learnFromTable_27 : decode cX2_learnFromTable 27 = .ok (.aload_n 0, 1) := by decide +kernel
theorem dX2_learnFromTable_28 : decode cX2_learnFromTable 28 = .ok (.getfield 18, 3) := by decide +kernel
theorem dX2_learnFromTable_31 : decode cX2_learnFromTable 31 = .ok (.iload_n 3, 1) := by decide +kernel
theorem dX2_learnFromTable_32 : decode cX2_learnFromTable 32 = .ok (.iaload, 1) := by decide +kernel
theorem dX2_learnFromTable_33 : decode cX2_learnFromTable 33 = .ok (.if_icmp .le 18, 3) := by decide +kernel
theorem dX2_learnFromTable_36 : decode cX2_learnFromTable 36 = .ok (.aload_n 0, 1) := by decide +kernel
theorem dX2_learnFromTable_37 : decode cX2_learnFromTable 37 = .ok (.getfield 18, 3) := by decide +kernel
theorem dX2_learnFromTable_40 : decode cX2_learnFromTable 40 = .ok (.iload_n 3, 1) := by decide +kernel
theorem dX2_learnFromTable_41 : decode cX2_learnFromTable 41 = .ok (.aload_n 1, 1) := by decide +kernel
theorem dX2_learnFromTable_42 : decode cX2_learnFromTable 42 = .ok (.getfield 18, 3) := by decide +kernel
theorem dX2_learnFromTable_45 : decode cX2_learnFromTable 45 = .ok (.iload_n 3, 1) := by decide +kernel
theorem dX2_learnFromTable_46 : decode cX2_learnFromTable 46 = .ok (.iaload, 1) := by decide +kernel
theorem dX2_learnFromTable_47 : decode cX2_learnFromTable 47 = .ok (.iastore, 1) := by decide +kernel
theorem dX2_learnFromTable_48 : decode cX2_learnFromTable 48 = .ok (.iinc 2 1, 3) := by decide +kernel
theorem dX2_learnFromTable_51 : decode cX2_learnFromTable 51 = .ok (.iinc 3 1, 3) := by decide +kernel
theorem dX2_learnFromTable_54 : decode cX2_learnFromTable 54 = .ok (.goto (-50), 3) := by decide +kernel
theorem dX2_learnFromTable_57 : decode cX2_learnFromTable 57 = .ok (.iload_n 2, 1) := by decide +kernel
theorem dX2_learnFromTable_58 : decode cX2_learnFromTable 58 = .ok (.ireturn, 1) := by decide +kernel
theorem dX2_countShared_0 : decode cX2_countShared 0 = .ok (.iconst 0, 1) := by decide +kernel
theorem dX2_countShared_1 : decode cX2_countShared 1 = .ok (.istore_n 2, 1) := by decide +kernel
theorem dX2_countShared_2 : decode cX2_countShared 2 = .ok (.iconst 0, 1) := by decide +kernel
theorem dX2_countShared_3 : decode cX2_countShared 3 = .ok (.istore_n 3, 1) := by decide +kernel
theorem dX2_countShared_4 : decode cX2_countShared 4 = .ok (.iload_n 3, 1) := by decide +kernel
theorem dX2_countShared_5 : decode cX2_countShared 5 = .ok (.aload_n 0, 1) := by decide +kernel
theorem dX2_countShared_6 : decode cX2_countShared 6 = .ok (.getfield 21, 3) := by decide +kernel
theorem dX2_countShared_9 : decode cX2_countShared 9 = .ok (.if_icmp .ge 25, 3) := by decide +kernel
theorem dX2_countShared_12 : decode cX2_countShared 12 = .ok (.aload_n 1, 1) := by decide +kernel
theorem dX2_countShared_13 : decode cX2_countShared 13 = .ok (.aload_n 0, 1) := by decide +kernel
theorem dX2_countShared_14 : decode cX2_countShared 14 = .ok (.getfield 9, 3) := by decide +kernel
theorem dX2_countShared_17 : decode cX2_countShared 17 = .ok (.iload_n 3, 1) := by decide +kernel
theorem dX2_countShared_18 : decode cX2_countShared 18 = .ok (.iaload, 1) := by decide +kernel
theorem dX2_countShared_19 : decode cX2_countShared 19 = .ok (.invokevirtual 49, 3) := by decide +kernel
theorem dX2_countShared_22 : decode cX2_countShared 22 = .ok (.ifCond .eq 6, 3) := by decide +kernel
theorem dX2_countShared_25 : decode cX2_countShared 25 = .ok (.iinc 2 1, 3) := by decide +kernel
theorem dX2_countShared_28 : decode cX2_countShared 28 = .ok (.iinc 3 1, 3) := by decide +kernel
theorem dX2_countShared_31 : decode cX2_countShared 31 = .ok (.goto (-27), 3) := by decide +kernel
theorem dX2_countShared_34 : decode cX2_countShared 34 = .ok (.iload_n 2, 1) := by decide +kernel
theorem dX2_countShared_35 : decode cX2_countShared 35 = .ok (.ireturn, 1) := by decide +kernel
theorem dX2_countSwapped_0 : decode cX2_countSwapped 0 = .ok (.iconst 0, 1) := by decide +kernel
theorem dX2_countSwapped_1 : decode cX2_countSwapped 1 = .ok (.istore_n 2, 1) := by decide +kernel
theorem dX2_countSwapped_2 : decode cX2_countSwapped 2 = .ok (.iconst 0, 1) := by decide +kernel
theorem dX2_countSwapped_3 : decode cX2_countSwapped 3 = .ok (.istore_n 3, 1) := by decide +kernel
theorem dX2_countSwapped_4 : decode cX2_countSwapped 4 = .ok (.iload_n 3, 1) := by decide +kernel
theorem dX2_countSwapped_5 : decode cX2_countSwapped 5 = .ok (.aload_n 0, 1) := by decide +kernel
theorem dX2_countSwapped_6 : decode cX2_countSwapped 6 = .ok (.getfield 21, 3) := by decide +kernel
theorem dX2_countSwapped_9 : decode cX2_countSwapped 9 = .ok (.if_icmp .ge 31, 3) := by decide +kernel
theorem dX2_countSwapped_12 : decode cX2_countSwapped 12 = .ok (.aload_n 1, 1) := by decide +kernel
theorem dX2_countSwapped_13 : decode cX2_countSwapped 13 = .ok (.aload_n 0, 1) := by decide +kernel
theorem dX2_countSwapped_14 : decode cX2_countSwapped 14 = .ok (.getfield 9, 3) := by decide +kernel
theorem dX2_countSwapped_17 : decode cX2_countSwapped 17 = .ok (.iload_n 3, 1) := by decide +kernel
theorem dX2_countSwapped_18 : decode cX2_countSwapped 18 = .ok (.iaload, 1) := by decide +kernel
theorem dX2_countSwapped_19 : decode cX2_countSwapped 19 = .ok (.invokevirtual 49, 3) := by decide +kernel
theorem dX2_countSwapped_22 : decode cX2_countSwapped 22 = .ok (.ifCond .eq 12, 3) := by decide +kernel
theorem dX2_countSwapped_25 : decode cX2_countSwapped 25 = .ok (.iload_n 2, 1) := by decide +kernel
theorem dX2_countSwapped_26 : decode cX2_countSwapped 26 = .ok (.aload_n 0, 1) := by decide +kernel
theorem dX2_countSwapped_27 : decode cX2_countSwapped 27 = .ok (.iload_n 3, 1) := by decide +kernel
theorem dX2_countSwapped_28 : decode cX2_countSwapped 28 = .ok (.aload_n 1, 1) := by decide +kernel
theorem dX2_countSwapped_29 : decode cX2_countSwapped 29 = .ok (.invokevirtual 62, 3) := by decide +kernel
theorem dX2_countSwapped_32 : decode cX2_countSwapped 32 = .ok (.iadd, 1) := by decide +kernel
theorem dX2_countSwapped_33 : decode cX2_countSwapped 33 = .ok (.istore_n 2, 1) := by decide +kernel
theorem dX2_countSwapped_34 : decode cX2_countSwapped 34 = .ok (.iinc 3 1, 3) := by decide +kernel
theorem dX2_countSwapped_37 : decode cX2_countSwapped 37 = .ok (.goto (-33), 3) := by decide +kernel
theorem dX2_countSwapped_40 : decode cX2_countSwapped 40 = .ok (.iload_n 2, 1) := by decide +kernel
theorem dX2_countSwapped_41 : decode cX2_countSwapped 41 = .ok (.ireturn, 1) := by decide +kernel
theorem dX2_countSwappedBehind_0 : decode cX2_countSwappedBehind 0 = .ok (.aload_n 2, 1) := by decide +kernel
theorem dX2_countSwappedBehind_1 : decode cX2_countSwappedBehind 1 = .ok (.getfield 15, 3) := by decide +kernel
theorem dX2_countSwappedBehind_4 : decode cX2_countSwappedBehind 4 = .ok (.aload_n 0, 1) := by decide +kernel
theorem dX2_countSwappedBehind_5 : decode cX2_countSwappedBehind 5 = .ok (.getfield 9, 3) := by decide +kernel
theorem dX2_countSwappedBehind_8 : decode cX2_countSwappedBehind 8 = .ok (.iload_n 1, 1) := by decide +kernel
theorem dX2_countSwappedBehind_9 : decode cX2_countSwappedBehind 9 = .ok (.iaload, 1) := by decide +kernel
theorem dX2_countSwappedBehind_10 : decode cX2_countSwappedBehind 10 = .ok (.iaload, 1) := by decide +kernel
theorem dX2_countSwappedBehind_11 : decode cX2_countSwappedBehind 11 = .ok (.istore_n 3, 1) := by decide +kernel
theorem dX2_countSwappedBehind_12 : decode cX2_countSwappedBehind 12 = .ok (.iconst 0, 1) := by decide +kernel
theorem dX2_countSwappedBehind_13 : decode cX2_countSwappedBehind 13 = .ok (.istore 4, 2) := by decide +kernel
theorem dX2_countSwappedBehind_15 : decode cX2_countSwappedBehind 15 = .ok (.iload_n 1, 1) := by decide +kernel
theorem dX2_countSwappedBehind_16 : decode cX2_countSwappedBehind 16 = .ok (.iconst 1, 1) := by decide +kernel
theorem dX2_countSwappedBehind_17 : decode cX2_countSwappedBehind 17 = .ok (.iadd, 1) := by decide +kernel
theorem dX2_countSwappedBehind_18 : decode cX2_countSwappedBehind 18 = .ok (.istore 5, 2) := by decide +kernel
theorem dX2_countSwappedBehind_20 : decode cX2_countSwappedBehind 20 = .ok (.iload 5, 2) := by decide +kernel
theorem dX2_countSwappedBehind_22 : decode cX2_countSwappedBehind 22 = .ok (.aload_n 0, 1) := by decide +kernel
theorem dX2_countSwappedBehind_23 : decode cX2_countSwappedBehind 23 = .ok (.getfield 21, 3) := by decide +kernel
theorem dX2_countSwappedBehind_26 : decode cX2_countSwappedBehind 26 = .ok (.if_icmp .ge 37, 3) := by decide +kernel
theorem dX2_countSwappedBehind_29 : decode cX2_countSwappedBehind 29 = .ok (.aload_n 2, 1) := by decide +kernel
theorem dX2_countSwappedBehind_30 : decode cX2_countSwappedBehind 30 = .ok (.getfield 15, 3) := by decide +kernel
theorem dX2_countSwappedBehind_33 : decode cX2_countSwappedBehind 33 = .ok (.aload_n 0, 1) := by decide +kernel
theorem dX2_countSwappedBehind_34 : decode cX2_countSwappedBehind 34 = .ok (.getfield 9, 3) := by decide +kernel
theorem dX2_countSwappedBehind_37 : decode cX2_countSwappedBehind 37 = .ok (.iload 5, 2) := by decide +kernel
theorem dX2_countSwappedBehind_39 : decode cX2_countSwappedBehind 39 = .ok (.iaload, 1) := by decide +kernel
theorem dX2_countSwappedBehind_40 : decode cX2_countSwappedBehind 40 = .ok (.iaload, 1) := by decide +kernel
theorem dX2_countSwappedBehind_41 : decode cX2_countSwappedBehind 41 = .ok (.istore 6, 2) := by decide +kernel
theorem dX2_countSwappedBehind_43 : decode cX2_countSwappedBehind 43 = .ok (.iload 6, 2) := by decide +kernel
theorem dX2_countSwappedBehind_45 : decode cX2_countSwappedBehind 45 = .ok (.ifCond .lt 12, 3) := by decide +kernel
theorem dX2_countSwappedBehind_48 : decode cX2_countSwappedBehind 48 = .ok (.iload 6, 2) := by decide +kernel
theorem dX2_countSwappedBehind_50 : decode cX2_countSwappedBehind 50 = .ok (.iload_n 3, 1) := by decide +kernel
theorem dX2_countSwappedBehind_51 : decode cX2_countSwappedBehind 51 = .ok (.if_icmp .ge 6, 3) := by decide +kernel
theorem dX2_countSwappedBehind_54 : decode cX2_countSwappedBehind 54 = .ok (.iinc 4 1, 3) := by decide +kernel
theorem dX2_countSwappedBehind_57 : decode cX2_countSwappedBehind 57 = .ok (.iinc 5 1, 3) := by decide +kernel
theorem dX2_countSwappedBehind_60 : decode cX2_countSwappedBehind 60 = .ok (.goto (-40), 3) := by decide +kernel
theorem dX2_countSwappedBehind_63 : decode cX2_countSwappedBehind 63 = .ok (.iload 4, 2) := by decide +kernel
theorem dX2_countSwappedBehind_65 : decode cX2_countSwappedBehind 65 = .ok (.ireturn, 1) := by decide +kernel
theorem dX2_copyLogAndState_0 : decode cX2_copyLogAndState 0 = .ok (.aload_n 1, 1) := by decide +kernel
theorem dX2_copyLogAndState_1 : decode cX2_copyLogAndState 1 = .ok (.getfield 9, 3) := by decide +kernel
theorem dX2_copyLogAndState_4 : decode cX2_copyLogAndState 4 = .ok (.aload_n 0, 1) := by decide +kernel
theorem dX2_copyLogAndState_5 : decode cX2_copyLogAndState 5 = .ok (.getfield 9, 3) := by decide +kernel
theorem dX2_copyLogAndState_8 : decode cX2_copyLogAndState 8 = .ok (.invokestatic 66, 3) := by decide +kernel
theorem dX2_copyLogAndState_11 : decode cX2_copyLogAndState 11 = .ok (.aload_n 1, 1) := by decide +kernel
theorem dX2_copyLogAndState_12 : decode cX2_copyLogAndState 12 = .ok (.getfield 15, 3) := by decide +kernel
theorem dX2_copyLogAndState_15 : decode cX2_copyLogAndState 15 = .ok (.aload_n 0, 1) := by decide +kernel
theorem dX2_copyLogAndState_16 : decode cX2_copyLogAndState 16 = .ok (.getfield 15, 3) := by decide +kernel
theorem dX2_copyLogAndState_19 : decode cX2_copyLogAndState 19 = .ok (.invokestatic 66, 3) := by decide +kernel
theorem dX2_copyLogAndState_22 : decode cX2_copyLogAndState 22 = .ok (.aload_n 0, 1) := by decide +kernel
theorem dX2_copyLogAndState_23 : decode cX2_copyLogAndState 23 = .ok (.aload_n 1, 1) := by decide +kernel
theorem dX2_copyLogAndState_24 : decode cX2_copyLogAndState 24 = .ok (.getfield 21, 3) := by decide +kernel
theorem dX2_copyLogAndState_27 : decode cX2_copyLogAndState 27 = .ok (.putfield 21, 3) := by decide +kernel
theorem dX2_copyLogAndState_30 : decode cX2_copyLogAndState 30 = .ok (.aload_n 0, 1) := by decide +kernel
theorem dX2_copyLogAndState_31 : decode cX2_copyLogAndState 31 = .ok (.aload_n 1, 1) := by decide +kernel
theorem dX2_copyLogAndState_32 : decode cX2_copyLogAndState 32 = .ok (.getfield 25, 3) := by decide +kernel
theorem dX2_copyLogAndState_35 : decode cX2_copyLogAndState 35 = .ok (.putfield 25, 3) := by decide +kernel
theorem dX2_copyLogAndState_38 : decode cX2_copyLogAndState 38 = .ok (.return_, 1) := by decide +kernel
theorem dX2_copyFrom_0 : decode cX2_copyFrom 0 = .ok (.aload_n 0, 1) := by decide +kernel
theorem dX2_copyFrom_1 : decode cX2_copyFrom 1 = .ok (.aload_n 1, 1) := by decide +kernel
theorem dX2_copyFrom_2 : decode cX2_copyFrom 2 = .ok (.invokevirtual 70, 3) := by decide +kernel
theorem dX2_copyFrom_5 : decode cX2_copyFrom 5 = .ok (.aload_n 1, 1) := by decide +kernel
theorem dX2_copyFrom_6 : decode cX2_copyFrom 6 = .ok (.getfield 18, 3) := by decide +kernel
theorem dX2_copyFrom_9 : decode cX2_copyFrom 9 = .ok (.aload_n 0, 1) := by decide +kernel
theorem dX2_copyFrom_10 : decode cX2_copyFrom 10 = .ok (.getfield 18, 3) := by decide +kernel
theorem dX2_copyFrom_13 : decode cX2_copyFrom 13 = .ok (.invokestatic 66, 3) := by decide +kernel
theorem dX2_copyFrom_16 : decode cX2_copyFrom 16 = .ok (.return_, 1) := by decide +kernel
theorem dX3_init_0 : decode cX3_init 0 = .ok (.aload_n 0, 1) := by decide +kernel
theorem dX3_init_1 : decode cX3_init 1 = .ok (.invokespecial 3, 3) := by decide +kernel
theorem dX3_init_4 : decode cX3_init 4 = .ok (.aload_n 0, 1) := by decide +kernel
theorem dX3_init_5 : decode cX3_init 5 = .ok (.bipush 60, 2) := by decide +kernel
theorem dX3_init_7 : decode cX3_init 7 = .ok (.newarray .char, 2) := by decide +kernel
theorem dX3_init_9 : decode cX3_init 9 = .ok (.putfield 9, 3) := by decide +kernel
theorem dX3_init_12 : decode cX3_init 12 = .ok (.aload_n 0, 1) := by decide +kernel
theorem dX3_init_13 : decode cX3_init 13 = .ok (.iconst 0, 1) := by decide +kernel
theorem dX3_init_14 : decode cX3_init 14 = .ok (.putfield 15, 3) := by decide +kernel
theorem dX3_init_17 : decode cX3_init 17 = .ok (.aload_n 0, 1) := by decide +kernel
theorem dX3_init_18 : decode cX3_init 18 = .ok (.bipush 30, 2) := by decide +kernel
theorem dX3_init_20 : decode cX3_init 20 = .ok (.newarray .char, 2) := by decide +kernel
theorem dX3_init_22 : decode cX3_init 22 = .ok (.putfield 19, 3) := by decide +kernel
theorem dX3_init_25 : decode cX3_init 25 = .ok (.aload_n 0, 1) := by decide +kernel
theorem dX3_init_26 : decode cX3_init 26 = .ok (.bipush 30, 2) := by decide +kernel
theorem dX3_init_28 : decode cX3_init 28 = .ok (.newarray .int, 2) := by decide +kernel
theorem dX3_init_30 : decode cX3_init 30 = .ok (.putfield 22, 3) := by decide +kernel
theorem dX3_init_33 : decode cX3_init 33 = .ok (.aload_n 0, 1) := by decide +kernel
theorem dX3_init_34 : decode cX3_init 34 = .ok (.bipush 30, 2) := by decide +kernel
theorem dX3_init_36 : decode cX3_init 36 = .ok (.newarray .int, 2) := by decide +kernel
theorem dX3_init_38 : decode cX3_init 38 = .ok (.putfield 26, 3) := by decide +kernel
theorem dX3_init_41 : decode cX3_init 41 = .ok (.aload_n 0, 1) := by decide +kernel
theorem dX3_init_42 : decode cX3_init 42 = .ok (.iconst 0, 1) := by decide +kernel
theorem dX3_init_43 : decode cX3_init 43 = .ok (.putfield 29, 3) := by decide +kernel
theorem dX3_init_46 : decode cX3_init 46 = .ok (.aload_n 0, 1) := by decide +kernel
theorem dX3_init_47 : decode cX3_init 47 = .ok (.iconst 0, 1) := by decide +kernel
theorem dX3_init_48 : decode cX3_init 48 = .ok (.putfield 32, 3) := by decide +kernel
theorem dX3_init_51 : decode cX3_init 51 = .ok (.aload_n 0, 1) := by decide +kernel
theorem dX3_init_52 : decode cX3_init 52 = .ok (.iconst 0, 1) := by decide +kernel
theorem dX3_init_53 : decode cX3_init 53 = .ok (.putfield 35, 3) := by decide +kernel
theorem dX3_init_56 : decode cX3_init 56 = .ok (.return_, 1) := by decide +kernel
theorem dX3_isFull_0 : decode cX3_isFull 0 = .ok (.aload_n 0, 1) := by decide +kernel
theorem dX3_isFull_1 : decode cX3_isFull 1 = .ok (.getfield 15, 3) := by decide +kernel
theorem dX3_isFull_4 : decode cX3_isFull 4 = .ok (.bipush 60, 2) := by decide +kernel
theorem dX3_isFull_6 : decode cX3_isFull 6 = .ok (.if_icmp .lt 7, 3) := by decide +kernel
theorem dX3_isFull_9 : decode cX3_isFull 9 = .ok (.iconst 1, 1) := by decide +kernel
theorem dX3_isFull_10 : decode cX3_isFull 10 = .ok (.goto 4, 3) := by decide +kernel
theorem dX3_isFull_13 : decode cX3_isFull 13 = .ok (.iconst 0, 1) := by decide +kernel
theorem dX3_isFull_14 : decode cX3_isFull 14 = .ok (.ireturn, 1) := by decide +kernel
theorem dX3_add_0 : decode cX3_add 0 = .ok (.aload_n 0, 1) := by decide +kernel
theorem dX3_add_1 : decode cX3_add 1 = .ok (.invokevirtual 38, 3) := by decide +kernel
theorem dX3_add_4 : decode cX3_add 4 = .ok (.ifCond .ne 23, 3) := by decide +kernel
theorem dX3_add_7 : decode cX3_add 7 = .ok (.aload_n 0, 1) := by decide +kernel
theorem dX3_add_8 : decode cX3_add 8 = .ok (.getfield 9, 3) := by decide +kernel
theorem dX3_add_11 : decode cX3_add 11 = .ok (.aload_n 0, 1) := by decide +kernel
theorem dX3_add_12 : decode cX3_add 12 = .ok (.getfield 15, 3) := by decide +kernel
theorem dX3_add_15 : decode cX3_add 15 = .ok (.iload_n 1, 1) := by decide +kernel
theorem dX3_add_16 : decode cX3_add 16 = .ok (.castore, 1) := by decide +kernel
theorem dX3_add_17 : decode cX3_add 17 = .ok (.aload_n 0, 1) := by decide +kernel
theorem dX3_add_18 : decode cX3_add 18 = .ok (.dup, 1) := by decide +kernel
theorem dX3_add_19 : decode cX3_add 19 = .ok (.getfield 15, 3) := by decide +kernel
theorem dX3_add_22 : decode cX3_add 22 = .ok (.iconst 1, 1) := by decide +kernel
theorem dX3_add_23 : decode cX3_add 23 = .ok (.iadd, 1) := by decide +kernel
theorem dX3_add_24 : decode cX3_add 24 = .ok (.putfield 15, 3) := by decide +kernel
theorem dX3_add_27 : decode cX3_add 27 = .ok (.aload_n 0, 1) := by decide +kernel
theorem dX3_add_28 : decode cX3_add 28 = .ok (.getfield 15, 3) := by decide +kernel
theorem dX3_add_31 : decode cX3_add 31 = .ok (.ireturn, 1) := by decide +kernel
theorem dX3_clear_0 : decode cX3_clear 0 = .ok (.aload_n 0, 1) := by decide +kernel
theorem dX3_clear_1 : decode cX3_clear 1 = .ok (.iconst 0, 1) := by decide +kernel
theorem dX3_clear_2 : decode cX3_clear 2 = .ok (.putfield 15, 3) := by decide +kernel
theorem dX3_clear_5 : decode cX3_clear 5 = .ok (.return_, 1) := by decide +kernel
theorem dX3_parse_0 : decode cX3_parse 0 = .ok (.aload_n 0, 1) := by decide +kernel
theorem dX3_parse_1 : decode cX3_parse 1 = .ok (.iconst 0, 1) := by decide +kernel
theorem dX3_parse_2 : decode cX3_parse 2 = .ok (.putfield 32, 3) := by decide +kernel
theorem dX3_parse_5 : decode cX3_parse 5 = .ok (.aload_n 0, 1) := by decide +kernel
theorem dX3_parse_6 : decode cX3_parse 6 = .ok (.iconst 0, 1) := by decide +kernel
theorem dX3_parse_7 : decode cX3_parse 7 = .ok (.putfield 29, 3) := by decide +kernel
theorem dX3_parse_10 : decode cX3_parse 10 = .ok (.iconst 0, 1) := by decide +kernel
theorem dX3_parse_11 : decode cX3_parse 11 = .ok (.istore_n 1, 1) := by decide +kernel
theorem dX3_parse_12 : decode cX3_parse 12 = .ok (.iload_n 1, 1) := by decide +kernel
theorem dX3_parse_13 : decode cX3_parse 13 = .ok (.bipush 30, 2) := by decide +kernel
theorem dX3_parse_15 : decode cX3_parse 15 = .ok (.if_icmp .ge 42, 3) := by decide +kernel
theorem dX3_parse_18 : decode cX3_parse 18 = .ok (.aload_n 0, 1) := by decide +kernel
theorem dX3_parse_19 : decode cX3_parse 19 = .ok (.invokevirtual 42, 3) := by decide +kernel
theorem dX3_parse_22 : decode cX3_parse 22 = .ok (.ifCond .ne 5, 3) := by decide +kernel
theorem dX3_parse_25 : decode cX3_parse 25 = .ok (.iconst 0, 1) := by decide +kernel
theorem dX3_parse_26 : decode cX3_parse 26 = .ok (.ireturn, 1) := by decide +kernel
theorem dX3_parse_27 : decode cX3_parse 27 = .ok (.aload_n 0, 1) := by decide +kernel
theorem dX3_parse_28 : decode cX3_parse 28 = .ok (.getfield 32, 3) := by decide +kernel
theorem dX3_parse_31 : decode cX3_parse 31 = .ok (.aload_n 0, 1) := by decide +kernel
theorem dX3_parse_32 : decode cX3_parse 32 = .ok (.getfield 15, 3) := by decide +kernel
theorem dX3_parse_35 : decode cX3_parse 35 = .ok (.if_icmp .lt 5, 3) := by decide +kernel
theorem dX3_parse_38 : decode cX3_parse 38 = .ok (.iconst 1, 1) := by decide +kernel
theorem dX3_parse_39 : decode cX3_parse 39 = .ok (.ireturn, 1) := by decide +kernel
theorem dX3_parse_40 : decode cX3_parse 40 = .ok (.aload_n 0, 1) := by decide +kernel
theorem dX3_parse_41 : decode cX3_parse 41 = .ok (.bipush 59, 2) := by decide +kernel
theorem dX3_parse_43 : decode cX3_parse 43 = .ok (.invokevirtual 45, 3) := by decide +kernel
theorem dX3_parse_46 : decode cX3_parse 46 = .ok (.ifCond .ne 5, 3) := by decide +kernel
theorem dX3_parse_49 : decode cX3_parse 49 = .ok (.iconst 0, 1) := by decide +kernel
theorem dX3_parse_50 : decode cX3_parse 50 = .ok (.ireturn, 1) := by decide +kernel
theorem dX3_parse_51 : decode cX3_parse 51 = .ok (.iinc 1 1, 3) := by decide +kernel
theorem dX3_parse_54 : decode cX3_parse 54 = .ok (.goto (-42), 3) := by decide +kernel
theorem dX3_parse_57 : decode cX3_parse 57 = .ok (.iconst 0, 1) := by decide +kernel
theorem dX3_parse_58 : decode cX3_parse 58 = .ok (.ireturn, 1) := by decide +kernel
theorem dX3_readEvent_0 : decode cX3_readEvent 0 = .ok (.aload_n 0, 1) := by decide +kernel
theorem dX3_readEvent_1 : decode cX3_readEvent 1 = .ok (.bipush 105, 2) := by decide +kernel
theorem dX3_readEvent_3 : decode cX3_readEvent 3 = .ok (.invokevirtual 45, 3) := by decide +kernel
theorem dX3_readEvent_6 : decode cX3_readEvent 6 = .ok (.ifCond .eq 12, 3) := by decide +kernel
theorem dX3_readEvent_9 : decode cX3_readEvent 9 = .ok (.aload_n 0, 1) := by decide +kernel
theorem dX3_readEvent_10 : decode cX3_readEvent 10 = .ok (.bipush 105, 2) := by decide +kernel
theorem dX3_readEvent_12 : decode cX3_readEvent 12 = .ok (.iconst 0, 1) := by decide +kernel
theorem dX3_readEvent_13 : decode cX3_readEvent 13 = .ok (.iconst 0, 1) := by decide +kernel
theorem dX3_readEvent_14 : decode cX3_readEvent 14 = .ok (.invokevirtual 49, 3) := by decide +kernel
theorem dX3_readEvent_17 : decode cX3_readEvent 17 = .ok (.ireturn, 1) := by decide +kernel
theorem dX3_readEvent_18 : decode cX3_readEvent 18 = .ok (.aload_n 0, 1) := by decide +kernel
theorem dX3_readEvent_19 : decode cX3_readEvent 19 = .ok (.getfield 32, 3) := by decide +kernel
theorem dX3_readEvent_22 : decode cX3_readEvent 22 = .ok (.aload_n 0, 1) := by decide +kernel
theorem dX3_readEvent_23 : decode cX3_readEvent 23 = .ok (.getfield 15, 3) := by decide +kernel
theorem dX3_readEvent_26 : decode cX3_readEvent 26 = .ok (.if_icmp .ge 15, 3) := by decide +kernel
theorem dX3_readEvent_29 : decode cX3_readEvent 29 = .ok (.aload_n 0, 1) := by decide +kernel
theorem dX3_readEvent_30 : decode cX3_readEvent 30 = .ok (.getfield 9, 3) := by decide +kernel
theorem dX3_readEvent_33 : decode cX3_readEvent 33 = .ok (.aload_n 0, 1) := by decide +kernel
theorem dX3_readEvent_34 : decode cX3_readEvent 34 = .ok (.getfield 32, 3) := by decide +kernel
theorem dX3_readEvent_37 : decode cX3_readEvent 37 = .ok (.caload, 1) := by decide +kernel
theorem dX3_readEvent_38 : decode cX3_readEvent 38 = .ok (.goto 5, 3) := by decide +kernel
theorem dX3_readEvent_41 : decode cX3_readEvent 41 = .ok (.bipush 32, 2) := by decide +kernel
theorem dX3_readEvent_43 : decode cX3_readEvent 43 = .ok (.istore_n 1, 1) := by decide +kernel
theorem dX3_readEvent_44 : decode cX3_readEvent 44 = .ok (.ldc 53, 2) := by decide +kernel
theorem dX3_readEvent_46 : decode cX3_readEvent 46 = .ok (.iload_n 1, 1) := by decide +kernel
theorem dX3_readEvent_47 : decode cX3_readEvent 47 = .ok (.invokevirtual 55, 3) := by decide +kernel
theorem dX3_readEvent_50 : decode cX3_readEvent 50 = .ok (.ifCond .ge 5, 3) := by decide +kernel
theorem dX3_readEvent_53 : decode cX3_readEvent 53 = .ok (.iconst 0, 1) := by decide +kernel
theorem dX3_readEvent_54 : decode cX3_readEvent 54 = .ok (.ireturn, 1) := by decide +kernel
theorem dX3_readEvent_55 : decode cX3_readEvent 55 = .ok (.aload_n 0, 1) := by decide +kernel
theorem dX3_readEvent_56 : decode cX3_readEvent 56 = .ok (.dup, 1) := by decide +kernel
theorem dX3_readEvent_57 : decode cX3_readEvent 57 = .ok (.getfield 32, 3) := by decide +kernel
theorem dX3_readEvent_60 : decode cX3_readEvent 60 = .ok (.iconst 1, 1) := by decide +kernel
theorem dX3_readEvent_61 : decode cX3_readEvent 61 = .ok (.iadd, 1) := by decide +kernel
theorem dX3_readEvent_62 : decode cX3_readEvent 62 = .ok (.putfield 32, 3) := by decide +kernel
theorem dX3_readEvent_65 : decode cX3_readEvent 65 = .ok (.aload_n 0, 1) := by decide +kernel
theorem dX3_readEvent_66 : decode cX3_readEvent 66 = .ok (.invokevirtual 61, 3) := by decide +kernel
theorem dX3_readEvent_69 : decode cX3_readEvent 69 = .ok (.ifCond .ne 5, 3) := by decide +kernel
theorem dX3_readEvent_72 : decode cX3_readEvent 72 = .ok (.iconst 0, 1) := by decide +kernel
theorem dX3_readEvent_73 : decode cX3_readEvent 73 = .ok (.ireturn, 1) := by decide +kernel
theorem dX3_readEvent_74 : decode cX3_readEvent 74 = .ok (.aload_n 0, 1) := by decide +kernel
theorem dX3_readEvent_75 : decode cX3_readEvent 75 = .ok (.getfield 35, 3) := by decide +kernel
theorem dX3_readEvent_78 : decode cX3_readEvent 78 = .ok (.istore_n 2, 1) := by decide +kernel
theorem dX3_readEvent_79 : decode cX3_readEvent 79 = .ok (.aload_n 0, 1) := by decide +kernel
theorem dX3_readEvent_80 : decode cX3_readEvent 80 = .ok (.iload_n 1, 1) := by decide +kernel
theorem dX3_readEvent_81 : decode cX3_readEvent 81 = .ok (.invokevirtual 64, 3) := by decide +kernel
theorem dX3_readEvent_84 : decode cX3_readEvent 84 = .ok (.ifCond .eq 20, 3) := by decide +kernel
theorem dX3_readEvent_87 : decode cX3_readEvent 87 = .ok (.aload_n 0, 1) := by decide +kernel
theorem dX3_readEvent_88 : decode cX3_readEvent 88 = .ok (.iload_n 1, 1) := by decide +kernel
theorem dX3_readEvent_89 : decode cX3_readEvent 89 = .ok (.iload_n 2, 1) := by decide +kernel
theorem dX3_readEvent_90 : decode cX3_readEvent 90 = .ok (.aload_n 0, 1) := by decide +kernel
theorem dX3_readEvent_91 : decode cX3_readEvent 91 = .ok (.getfield 35, 3) := by decide +kernel
theorem dX3_readEvent_94 : decode cX3_readEvent 94 = .ok (.invokevirtual 49, 3) := by decide +kernel
theorem dX3_readEvent_97 : decode cX3_readEvent 97 = .ok (.ifCond .eq 7, 3) := by decide +kernel
theorem dX3_readEvent_100 : decode cX3_readEvent 100 = .ok (.iconst 1, 1) := by decide +kernel
theorem dX3_readEvent_101 : decode cX3_readEvent 101 = .ok (.goto 4, 3) := by decide +kernel
theorem dX3_readEvent_104 : decode cX3_readEvent 104 = .ok (.iconst 0, 1) := by decide +kernel
theorem dX3_readEvent_105 : decode cX3_readEvent 105 = .ok (.ireturn, 1) := by decide +kernel
theorem dX3_readRest_0 : decode cX3_readRest 0 = .ok (.iload_n 1, 1) := by decide +kernel
theorem dX3_readRest_1 : decode cX3_readRest 1 = .ok (.lookupswitch 101 #[(97, 57), (98, 35), (103, 79)], 35) := by decide +kernel
theorem dX3_readRest_36 : decode cX3_readRest 36 = .ok (.aload_n 0, 1) := by decide +kernel
theorem dX3_readRest_37 : decode cX3_readRest 37 = .ok (.bipush 61, 2) := by decide +kernel
theorem dX3_readRest_39 : decode cX3_readRest 39 = .ok (.invokevirtual 45, 3) := by decide +kernel
theorem dX3_readRest_42 : decode cX3_readRest 42 = .ok (.ifCond .eq 14, 3) := by decide +kernel
theorem dX3_readRest_45 : decode cX3_readRest 45 = .ok (.aload_n 0, 1) := by decide +kernel
theorem dX3_readRest_46 : decode cX3_readRest 46 = .ok (.invokevirtual 67, 3) := by decide +kernel
theorem dX3_readRest_49 : decode cX3_readRest 49 = .ok (.ifCond .eq 7, 3) := by decide +kernel
theorem dX3_readRest_52 : decode cX3_readRest 52 = .ok (.iconst 1, 1) := by decide +kernel
theorem dX3_readRest_53 : decode cX3_readRest 53 = .ok (.goto 4, 3) := by decide +kernel
theorem dX3_readRest_56 : decode cX3_readRest 56 = .ok (.iconst 0, 1) := by decide +kernel
theorem dX3_readRest_57 : decode cX3_readRest 57 = .ok (.ireturn, 1) := by decide +kernel
theorem dX3_readRest_58 : decode cX3_readRest 58 = .ok (.aload_n 0, 1) := by decide +kernel
theorem dX3_readRest_59 : decode cX3_readRest 59 = .ok (.bipush 44, 2) := by decide +kernel
theorem dX3_readRest_61 : decode cX3_readRest 61 = .ok (.invokevirtual 45, 3) := by decide +kernel
theorem dX3_readRest_64 : decode cX3_readRest 64 = .ok (.ifCond .eq 14, 3) := by decide +kernel
theorem dX3_readRest_67 : decode cX3_readRest 67 = .ok (.aload_n 0, 1) := by decide +kernel
theorem dX3_readRest_68 : decode cX3_readRest 68 = .ok (.invokevirtual 70, 3) := by decide +kernel
theorem dX3_readRest_71 : decode cX3_readRest 71 = .ok (.ifCond .eq 7, 3) := by decide +kernel
theorem dX3_readRest_74 : decode cX3_readRest 74 = .ok (.iconst 1, 1) := by decide +kernel
theorem dX3_readRest_75 : decode cX3_readRest 75 = .ok (.goto 4, 3) := by decide +kernel
theorem dX3_readRest_78 : decode cX3_readRest 78 = .ok (.iconst 0, 1) := by decide +kernel
theorem dX3_readRest_79 : decode cX3_readRest 79 = .ok (.ireturn, 1) := by decide +kernel
theorem dX3_readRest_80 : decode cX3_readRest 80 = .ok (.aload_n 0, 1) := by decide +kernel
theorem dX3_readRest_81 : decode cX3_readRest 81 = .ok (.bipush 44, 2) := by decide +kernel
theorem dX3_readRest_83 : decode cX3_readRest 83 = .ok (.invokevirtual 45, 3) := by decide +kernel
theorem dX3_readRest_86 : decode cX3_readRest 86 = .ok (.ifCond .eq 14, 3) := by decide +kernel
theorem dX3_readRest_89 : decode cX3_readRest 89 = .ok (.aload_n 0, 1) := by decide +kernel
theorem dX3_readRest_90 : decode cX3_readRest 90 = .ok (.invokevirtual 61, 3) := by decide +kernel
theorem dX3_readRest_93 : decode cX3_readRest 93 = .ok (.ifCond .eq 7, 3) := by decide +kernel
theorem dX3_readRest_96 : decode cX3_readRest 96 = .ok (.iconst 1, 1) := by decide +kernel
theorem dX3_readRest_97 : decode cX3_readRest 97 = .ok (.goto 4, 3) := by decide +kernel
theorem dX3_readRest_100 : decode cX3_readRest 100 = .ok (.iconst 0, 1) := by decide +kernel
theorem dX3_readRest_101 : decode cX3_readRest 101 = .ok (.ireturn, 1) := by decide +kernel
theorem dX3_readRest_102 : decode cX3_readRest 102 = .ok (.iconst 1, 1) := by decide +kernel
theorem dX3_readRest_103 : decode cX3_readRest 103 = .ok (.ireturn, 1) := by decide +kernel
theorem dX3_keep_0 : decode cX3_keep 0 = .ok (.aload_n 0, 1) := by decide +kernel
theorem dX3_keep_1 : decode cX3_keep 1 = .ok (.getfield 29, 3) := by decide +kernel
theorem dX3_keep_4 : decode cX3_keep 4 = .ok (.bipush 30, 2) := by decide +kernel
theorem dX3_keep_6 : decode cX3_keep 6 = .ok (.if_icmp .lt 5, 3) := by decide +kernel
theorem dX3_keep_9 : decode cX3_keep 9 = .ok (.iconst 0, 1) := by decide +kernel
theorem dX3_keep_10 : decode cX3_keep 10 = .ok (.ireturn, 1) := by decide +kernel
theorem dX3_keep_11 : decode cX3_keep 11 = .ok (.aload_n 0, 1) := by decide +kernel
theorem dX3_keep_12 : decode cX3_keep 12 = .ok (.getfield 19, 3) := by decide +kernel
theorem dX3_keep_15 : decode cX3_keep 15 = .ok (.aload_n 0, 1) := by decide +kernel
theorem dX3_keep_16 : decode cX3_keep 16 = .ok (.getfield 29, 3) := by decide +kernel
theorem dX3_keep_19 : decode cX3_keep 19 = .ok (.iload_n 1, 1) := by decide +kernel
theorem dX3_keep_20 : decode cX3_keep 20 = .ok (.castore, 1) := by decide +kernel
theorem dX3_keep_21 : decode cX3_keep 21 = .ok (.aload_n 0, 1) := by decide +kernel
theorem dX3_keep_22 : decode cX3_keep 22 = .ok (.getfield 22, 3) := by decide +kernel
theorem dX3_keep_25 : decode cX3_keep 25 = .ok (.aload_n 0, 1) := by decide +kernel
theorem dX3_keep_26 : decode cX3_keep 26 = .ok (.getfield 29, 3) := by decide +kernel
theorem dX3_keep_29 : decode cX3_keep 29 = .ok (.iload_n 2, 1) := by decide +kernel
theorem dX3_keep_30 : decode cX3_keep 30 = .ok (.iastore, 1) := by decide +kernel
theorem dX3_keep_31 : decode cX3_keep 31 = .ok (.aload_n 0, 1) := by decide +kernel
theorem dX3_keep_32 : decode cX3_keep 32 = .ok (.getfield 26, 3) := by decide +kernel
theorem dX3_keep_35 : decode cX3_keep 35 = .ok (.aload_n 0, 1) := by decide +kernel
theorem dX3_keep_36 : decode cX3_keep 36 = .ok (.getfield 29, 3) := by decide +kernel
theorem dX3_keep_39 : decode cX3_keep 39 = .ok (.iload_n 3, 1) := by decide +kernel
theorem dX3_keep_40 : decode cX3_keep 40 = .ok (.iastore, 1) := by decide +kernel
theorem dX3_keep_41 : decode cX3_keep 41 = .ok (.aload_n 0, 1) := by decide +kernel
theorem dX3_keep_42 : decode cX3_keep 42 = .ok (.dup, 1) := by decide +kernel
theorem dX3_keep_43 : decode cX3_keep 43 = .ok (.getfield 29, 3) := by decide +kernel
theorem dX3_keep_46 : decode cX3_keep 46 = .ok (.iconst 1, 1) := by decide +kernel
theorem dX3_keep_47 : decode cX3_keep 47 = .ok (.iadd, 1) := by decide +kernel
theorem dX3_keep_48 : decode cX3_keep 48 = .ok (.putfield 29, 3) := by decide +kernel
theorem dX3_keep_51 : decode cX3_keep 51 = .ok (.iconst 1, 1) := by decide +kernel
theorem dX3_keep_52 : decode cX3_keep 52 = .ok (.ireturn, 1) := by decide +kernel
theorem dX3_readSign_0 : decode cX3_readSign 0 = .ok (.aload_n 0, 1) := by decide +kernel
theorem dX3_readSign_1 : decode cX3_readSign 1 = .ok (.getfield 32, 3) := by decide +kernel
theorem dX3_readSign_4 : decode cX3_readSign 4 = .ok (.aload_n 0, 1) := by decide +kernel
theorem dX3_readSign_5 : decode cX3_readSign 5 = .ok (.getfield 15, 3) := by decide +kernel
theorem dX3_readSign_8 : decode cX3_readSign 8 = .ok (.if_icmp .ge 16, 3) := by decide +kernel
theorem dX3_readSign_11 : decode cX3_readSign 11 = .ok (.aload_n 0, 1) := by decide +kernel
theorem dX3_readSign_12 : decode cX3_readSign 12 = .ok (.getfield 9, 3) := by decide +kernel
theorem dX3_readSign_15 : decode cX3_readSign 15 = .ok (.aload_n 0, 1) := by decide +kernel
theorem dX3_readSign_16 : decode cX3_readSign 16 = .ok (.getfield 32, 3) := by decide +kernel
theorem dX3_readSign_19 : decode cX3_readSign 19 = .ok (.caload, 1) := by decide +kernel
theorem dX3_readSign_20 : decode cX3_readSign 20 = .ok (.iload_n 1, 1) := by decide +kernel
theorem dX3_readSign_21 : decode cX3_readSign 21 = .ok (.if_icmp .eq 5, 3) := by decide +kernel
theorem dX3_readSign_24 : decode cX3_readSign 24 = .ok (.iconst 0, 1) := by decide +kernel
theorem dX3_readSign_25 : decode cX3_readSign 25 = .ok (.ireturn, 1) := by decide +kernel
theorem dX3_readSign_26 : decode cX3_readSign 26 = .ok (.aload_n 0, 1) := by decide +kernel
theorem dX3_readSign_27 : decode cX3_readSign 27 = .ok (.dup, 1) := by decide +kernel
theorem dX3_readSign_28 : decode cX3_readSign 28 = .ok (.getfield 32, 3) := by decide +kernel
theorem dX3_readSign_31 : decode cX3_readSign 31 = .ok (.iconst 1, 1) := by decide +kernel
theorem dX3_readSign_32 : decode cX3_readSign 32 = .ok (.iadd, 1) := by decide +kernel
theorem dX3_readSign_33 : decode cX3_readSign 33 = .ok (.putfield 32, 3) := by decide +kernel
theorem dX3_readSign_36 : decode cX3_readSign 36 = .ok (.iconst 1, 1) := by decide +kernel
theorem dX3_readSign_37 : decode cX3_readSign 37 = .ok (.ireturn, 1) := by decide +kernel
theorem dX3_readProcess_0 : decode cX3_readProcess 0 = .ok (.aload_n 0, 1) := by decide +kernel
theorem dX3_readProcess_1 : decode cX3_readProcess 1 = .ok (.invokevirtual 73, 3) := by decide +kernel
theorem dX3_readProcess_4 : decode cX3_readProcess 4 = .ok (.ifCond .eq 21, 3) := by decide +kernel
theorem dX3_readProcess_7 : decode cX3_readProcess 7 = .ok (.aload_n 0, 1) := by decide +kernel
theorem dX3_readProcess_8 : decode cX3_readProcess 8 = .ok (.getfield 9, 3) := by decide +kernel
theorem dX3_readProcess_11 : decode cX3_readProcess 11 = .ok (.aload_n 0, 1) := by decide +kernel
theorem dX3_readProcess_12 : decode cX3_readProcess 12 = .ok (.getfield 32, 3) := by decide +kernel
theorem dX3_readProcess_15 : decode cX3_readProcess 15 = .ok (.caload, 1) := by decide +kernel
theorem dX3_readProcess_16 : decode cX3_readProcess 16 = .ok (.bipush 48, 2) := by decide +kernel
theorem dX3_readProcess_18 : decode cX3_readProcess 18 = .ok (.isub, 1) := by decide +kernel
theorem dX3_readProcess_19 : decode cX3_readProcess 19 = .ok (.invokestatic 76, 3) := by decide +kernel
theorem dX3_readProcess_22 : decode cX3_readProcess 22 = .ok (.ifCond .ne 5, 3) := by decide +kernel
theorem dX3_readProcess_25 : decode cX3_readProcess 25 = .ok (.iconst 0, 1) := by decide +kernel
theorem dX3_readProcess_26 : decode cX3_readProcess 26 = .ok (.ireturn, 1) := by decide +kernel
theorem dX3_readProcess_27 : decode cX3_readProcess 27 = .ok (.aload_n 0, 1) := by decide +kernel
theorem dX3_readProcess_28 : decode cX3_readProcess 28 = .ok (.aload_n 0, 1) := by decide +kernel
theorem dX3_readProcess_29 : decode cX3_readProcess 29 = .ok (.getfield 9, 3) := by decide +kernel
theorem dX3_readProcess_32 : decode cX3_readProcess 32 = .ok (.aload_n 0, 1) := by decide +kernel
theorem dX3_readProcess_33 : decode cX3_readProcess 33 = .ok (.getfield 32, 3) := by decide +kernel
theorem dX3_readProcess_36 : decode cX3_readProcess 36 = .ok (.caload, 1) := by decide +kernel
theorem dX3_readProcess_37 : decode cX3_readProcess 37 = .ok (.bipush 48, 2) := by decide +kernel
theorem dX3_readProcess_39 : decode cX3_readProcess 39 = .ok (.isub, 1) := by decide +kernel
theorem dX3_readProcess_40 : decode cX3_readProcess 40 = .ok (.putfield 35, 3) := by decide +kernel
theorem dX3_readProcess_43 : decode cX3_readProcess 43 = .ok (.aload_n 0, 1) := by decide +kernel
theorem dX3_readProcess_44 : decode cX3_readProcess 44 = .ok (.dup, 1) := by decide +kernel
theorem dX3_readProcess_45 : decode cX3_readProcess 45 = .ok (.getfield 32, 3) := by decide +kernel
theorem dX3_readProcess_48 : decode cX3_readProcess 48 = .ok (.iconst 1, 1) := by decide +kernel
theorem dX3_readProcess_49 : decode cX3_readProcess 49 = .ok (.iadd, 1) := by decide +kernel
theorem dX3_readProcess_50 : decode cX3_readProcess 50 = .ok (.putfield 32, 3) := by decide +kernel
theorem dX3_readProcess_53 : decode cX3_readProcess 53 = .ok (.iconst 1, 1) := by decide +kernel
theorem dX3_readProcess_54 : decode cX3_readProcess 54 = .ok (.ireturn, 1) := by decide +kernel
theorem dX3_readPayload_0 : decode cX3_readPayload 0 = .ok (.aload_n 0, 1) := by decide +kernel
theorem dX3_readPayload_1 : decode cX3_readPayload 1 = .ok (.bipush 45, 2) := by decide +kernel
theorem dX3_readPayload_3 : decode cX3_readPayload 3 = .ok (.invokevirtual 45, 3) := by decide +kernel
theorem dX3_readPayload_6 : decode cX3_readPayload 6 = .ok (.istore_n 1, 1) := by decide +kernel
theorem dX3_readPayload_7 : decode cX3_readPayload 7 = .ok (.aload_n 0, 1) := by decide +kernel
theorem dX3_readPayload_8 : decode cX3_readPayload 8 = .ok (.invokevirtual 70, 3) := by decide +kernel
theorem dX3_readPayload_11 : decode cX3_readPayload 11 = .ok (.ifCond .ne 5, 3) := by decide +kernel
theorem dX3_readPayload_14 : decode cX3_readPayload 14 = .ok (.iconst 0, 1) := by decide +kernel
theorem dX3_readPayload_15 : decode cX3_readPayload 15 = .ok (.ireturn, 1) := by decide +kernel
theorem dX3_readPayload_16 : decode cX3_readPayload 16 = .ok (.aload_n 0, 1) := by decide +kernel
theorem dX3_readPayload_17 : decode cX3_readPayload 17 = .ok (.iload_n 1, 1) := by decide +kernel
theorem dX3_readPayload_18 : decode cX3_readPayload 18 = .ok (.ifCond .eq 11, 3) := by decide +kernel
theorem dX3_readPayload_21 : decode cX3_readPayload 21 = .ok (.aload_n 0, 1) := by decide +kernel
theorem dX3_readPayload_22 : decode cX3_readPayload 22 = .ok (.getfield 35, 3) := by decide +kernel
theorem dX3_readPayload_25 : decode cX3_readPayload 25 = .ok (.ineg, 1) := by decide +kernel
theorem dX3_readPayload_26 : decode cX3_readPayload 26 = .ok (.goto 7, 3) := by decide +kernel
theorem dX3_readPayload_29 : decode cX3_readPayload 29 = .ok (.aload_n 0, 1) := by decide +kernel
theorem dX3_readPayload_30 : decode cX3_readPayload 30 = .ok (.getfield 35, 3) := by decide +kernel
theorem dX3_readPayload_33 : decode cX3_readPayload 33 = .ok (.putfield 35, 3) := by decide +kernel
theorem dX3_readPayload_36 : decode cX3_readPayload 36 = .ok (.iconst 1, 1) := by decide +kernel
theorem dX3_readPayload_37 : decode cX3_readPayload 37 = .ok (.ireturn, 1) := by decide +kernel
theorem dX3_readDigits_0 : decode cX3_readDigits 0 = .ok (.iconst 0, 1) := by decide +kernel
theorem dX3_readDigits_1 : decode cX3_readDigits 1 = .ok (.istore_n 1, 1) := by decide +kernel
theorem dX3_readDigits_2 : decode cX3_readDigits 2 = .ok (.aload_n 0, 1) := by decide +kernel
theorem dX3_readDigits_3 : decode cX3_readDigits 3 = .ok (.iconst 0, 1) := by decide +kernel
theorem dX3_readDigits_4 : decode cX3_readDigits 4 = .ok (.putfield 35, 3) := by decide +kernel
theorem dX3_readDigits_7 : decode cX3_readDigits 7 = .ok (.iload_n 1, 1) := by decide +kernel
theorem dX3_readDigits_8 : decode cX3_readDigits 8 = .ok (.iconst 3, 1) := by decide +kernel
theorem dX3_readDigits_9 : decode cX3_readDigits 9 = .ok (.if_icmp .ge 50, 3) := by decide +kernel
theorem dX3_readDigits_12 : decode cX3_readDigits 12 = .ok (.aload_n 0, 1) := by decide +kernel
theorem dX3_readDigits_13 : decode cX3_readDigits 13 = .ok (.invokevirtual 73, 3) := by decide +kernel
theorem dX3_readDigits_16 : decode cX3_readDigits 16 = .ok (.ifCond .eq 43, 3) := by decide +kernel
theorem dX3_readDigits_19 : decode cX3_readDigits 19 = .ok (.aload_n 0, 1) := by decide +kernel
theorem dX3_readDigits_20 : decode cX3_readDigits 20 = .ok (.bipush 10, 2) := by decide +kernel
theorem dX3_readDigits_22 : decode cX3_readDigits 22 = .ok (.aload_n 0, 1) := by decide +kernel
theorem dX3_readDigits_23 : decode cX3_readDigits 23 = .ok (.getfield 35, 3) := by decide +kernel
theorem dX3_readDigits_26 : decode cX3_readDigits 26 = .ok (.imul, 1) := by decide +kernel
theorem dX3_readDigits_27 : decode cX3_readDigits 27 = .ok (.aload_n 0, 1) := by decide +kernel
theorem dX3_readDigits_28 : decode cX3_readDigits 28 = .ok (.getfield 9, 3) := by decide +kernel
theorem dX3_readDigits_31 : decode cX3_readDigits 31 = .ok (.aload_n 0, 1) := by decide +kernel
theorem dX3_readDigits_32 : decode cX3_readDigits 32 = .ok (.getfield 32, 3) := by decide +kernel
theorem dX3_readDigits_35 : decode cX3_readDigits 35 = .ok (.caload, 1) := by decide +kernel
theorem dX3_readDigits_36 : decode cX3_readDigits 36 = .ok (.bipush 48, 2) := by decide +kernel
theorem dX3_readDigits_38 : decode cX3_readDigits 38 = .ok (.isub, 1) := by decide +kernel
theorem dX3_readDigits_39 : decode cX3_readDigits 39 = .ok (.iadd, 1) := by decide +kernel
theorem dX3_readDigits_40 : decode cX3_readDigits 40 = .ok (.putfield 35, 3) := by decide +kernel
theorem dX3_readDigits_43 : decode cX3_readDigits 43 = .ok (.aload_n 0, 1) := by decide +kernel
theorem dX3_readDigits_44 : decode cX3_readDigits 44 = .ok (.dup, 1) := by decide +kernel
theorem dX3_readDigits_45 : decode cX3_readDigits 45 = .ok (.getfield 32, 3) := by decide +kernel
theorem dX3_readDigits_48 : decode cX3_readDigits 48 = .ok (.iconst 1, 1) := by decide +kernel
theorem dX3_readDigits_49 : decode cX3_readDigits 49 = .ok (.iadd, 1) := by decide +kernel
theorem dX3_readDigits_50 : decode cX3_readDigits 50 = .ok (.putfield 32, 3) := by decide +kernel
theorem dX3_readDigits_53 : decode cX3_readDigits 53 = .ok (.iinc 1 1, 3) := by decide +kernel
theorem dX3_readDigits_56 : decode cX3_readDigits 56 = .ok (.goto (-49), 3) := by decide +kernel
theorem dX3_readDigits_59 : decode cX3_readDigits 59 = .ok (.iload_n 1, 1) := by decide +kernel
theorem dX3_readDigits_60 : decode cX3_readDigits 60 = .ok (.ifCond .le 7, 3) := by decide +kernel
theorem dX3_readDigits_63 : decode cX3_readDigits 63 = .ok (.iconst 1, 1) := by decide +kernel
theorem dX3_readDigits_64 : decode cX3_readDigits 64 = .ok (.goto 4, 3) := by decide +kernel
theorem dX3_readDigits_67 : decode cX3_readDigits 67 = .ok (.iconst 0, 1) := by decide +kernel
theorem dX3_readDigits_68 : decode cX3_readDigits 68 = .ok (.ireturn, 1) := by decide +kernel
theorem dX3_isDigitNext_0 : decode cX3_isDigitNext 0 = .ok (.aload_n 0, 1) := by decide +kernel
theorem dX3_isDigitNext_1 : decode cX3_isDigitNext 1 = .ok (.getfield 32, 3) := by decide +kernel
theorem dX3_isDigitNext_4 : decode cX3_isDigitNext 4 = .ok (.aload_n 0, 1) := by decide +kernel
theorem dX3_isDigitNext_5 : decode cX3_isDigitNext 5 = .ok (.getfield 15, 3) := by decide +kernel
theorem dX3_isDigitNext_8 : decode cX3_isDigitNext 8 = .ok (.if_icmp .ge 35, 3) := by decide +kernel
theorem dX3_isDigitNext_11 : decode cX3_isDigitNext 11 = .ok (.aload_n 0, 1) := by decide +kernel
theorem dX3_isDigitNext_12 : decode cX3_isDigitNext 12 = .ok (.getfield 9, 3) := by decide +kernel
theorem dX3_isDigitNext_15 : decode cX3_isDigitNext 15 = .ok (.aload_n 0, 1) := by decide +kernel
theorem dX3_isDigitNext_16 : decode cX3_isDigitNext 16 = .ok (.getfield 32, 3) := by decide +kernel
theorem dX3_isDigitNext_19 : decode cX3_isDigitNext 19 = .ok (.caload, 1) := by decide +kernel
theorem dX3_isDigitNext_20 : decode cX3_isDigitNext 20 = .ok (.bipush 48, 2) := by decide +kernel
theorem dX3_isDigitNext_22 : decode cX3_isDigitNext 22 = .ok (.if_icmp .lt 21, 3) := by decide +kernel
theorem dX3_isDigitNext_25 : decode cX3_isDigitNext 25 = .ok (.aload_n 0, 1) := by decide +kernel
theorem dX3_isDigitNext_26 : decode cX3_isDigitNext 26 = .ok (.getfield 9, 3) := by decide +kernel
theorem dX3_isDigitNext_29 : decode cX3_isDigitNext 29 = .ok (.aload_n 0, 1) := by decide +kernel
theorem dX3_isDigitNext_30 : decode cX3_isDigitNext 30 = .ok (.getfield 32, 3) := by decide +kernel
theorem dX3_isDigitNext_33 : decode cX3_isDigitNext 33 = .ok (.caload, 1) := by decide +kernel
theorem dX3_isDigitNext_34 : decode cX3_isDigitNext 34 = .ok (.bipush 57, 2) := by decide +kernel
theorem dX3_isDigitNext_36 : decode cX3_isDigitNext 36 = .ok (.if_icmp .gt 7, 3) := by decide +kernel
theorem dX3_isDigitNext_39 : decode cX3_isDigitNext 39 = .ok (.iconst 1, 1) := by decide +kernel
theorem dX3_isDigitNext_40 : decode cX3_isDigitNext 40 = .ok (.goto 4, 3) := by decide +kernel
theorem dX3_isDigitNext_43 : decode cX3_isDigitNext 43 = .ok (.iconst 0, 1) := by decide +kernel
theorem dX3_isDigitNext_44 : decode cX3_isDigitNext 44 = .ok (.ireturn, 1) := by decide +kernel
theorem dX4_init_0 : decode cX4_init 0 = .ok (.aload_n 0, 1) := by decide +kernel
theorem dX4_init_1 : decode cX4_init 1 = .ok (.invokespecial 1, 3) := by decide +kernel
theorem dX4_init_4 : decode cX4_init 4 = .ok (.aload_n 0, 1) := by decide +kernel
theorem dX4_init_5 : decode cX4_init 5 = .ok (.new 7, 3) := by decide +kernel
theorem dX4_init_8 : decode cX4_init 8 = .ok (.dup, 1) := by decide +kernel
theorem dX4_init_9 : decode cX4_init 9 = .ok (.invokespecial 9, 3) := by decide +kernel
theorem dX4_init_12 : decode cX4_init 12 = .ok (.putfield 10, 3) := by decide +kernel
theorem dX4_init_15 : decode cX4_init 15 = .ok (.aload_n 0, 1) := by decide +kernel
theorem dX4_init_16 : decode cX4_init 16 = .ok (.new 16, 3) := by decide +kernel
theorem dX4_init_19 : decode cX4_init 19 = .ok (.dup, 1) := by decide +kernel
theorem dX4_init_20 : decode cX4_init 20 = .ok (.invokespecial 18, 3) := by decide +kernel
theorem dX4_init_23 : decode cX4_init 23 = .ok (.putfield 19, 3) := by decide +kernel
theorem dX4_init_26 : decode cX4_init 26 = .ok (.aload_n 0, 1) := by decide +kernel
theorem dX4_init_27 : decode cX4_init 27 = .ok (.aconst_null, 1) := by decide +kernel
theorem dX4_init_28 : decode cX4_init 28 = .ok (.putfield 23, 3) := by decide +kernel
theorem dX4_init_31 : decode cX4_init 31 = .ok (.aload_n 0, 1) := by decide +kernel
theorem dX4_init_32 : decode cX4_init 32 = .ok (.aconst_null, 1) := by decide +kernel
theorem dX4_init_33 : decode cX4_init 33 = .ok (.putfield 26, 3) := by decide +kernel
theorem dX4_init_36 : decode cX4_init 36 = .ok (.aload_n 0, 1) := by decide +kernel
theorem dX4_init_37 : decode cX4_init 37 = .ok (.iconst (-1), 1) := by decide +kernel
theorem dX4_init_38 : decode cX4_init 38 = .ok (.putfield 29, 3) := by decide +kernel
theorem dX4_init_41 : decode cX4_init 41 = .ok (.return_, 1) := by decide +kernel
theorem dX4_reset_0 : decode cX4_reset 0 = .ok (.iload_n 1, 1) := by decide +kernel
theorem dX4_reset_1 : decode cX4_reset 1 = .ok (.iconst 1, 1) := by decide +kernel
theorem dX4_reset_2 : decode cX4_reset 2 = .ok (.if_icmp .lt 9, 3) := by decide +kernel
theorem dX4_reset_5 : decode cX4_reset 5 = .ok (.iload_n 1, 1) := by decide +kernel
theorem dX4_reset_6 : decode cX4_reset 6 = .ok (.bipush 63, 2) := by decide +kernel
theorem dX4_reset_8 : decode cX4_reset 8 = .ok (.if_icmp .le 13, 3) := by decide +kernel
theorem dX4_reset_11 : decode cX4_reset 11 = .ok (.new 33, 3) := by decide +kernel
theorem dX4_reset_14 : decode cX4_reset 14 = .ok (.dup, 1) := by decide +kernel
theorem dX4_reset_15 : decode cX4_reset 15 = .ok (.ldc 35, 2) := by decide +kernel
theorem dX4_reset_17 : decode cX4_reset 17 = .ok (.invokespecial 37, 3) := by decide +kernel
theorem dX4_reset_20 : decode cX4_reset 20 = .ok (.athrow, 1) := by decide +kernel
theorem dX4_reset_21 : decode cX4_reset 21 = .ok (.aload_n 0, 1) := by decide +kernel
theorem dX4_reset_22 : decode cX4_reset 22 = .ok (.getfield 19, 3) := by decide +kernel
theorem dX4_reset_25 : decode cX4_reset 25 = .ok (.getfield 40, 3) := by decide +kernel
theorem dX4_reset_28 : decode cX4_reset 28 = .ok (.getfield 44, 3) := by decide +kernel
theorem dX4_reset_31 : decode cX4_reset 31 = .ok (.istore_n 2, 1) := by decide +kernel
theorem dX4_reset_32 : decode cX4_reset 32 = .ok (.aload_n 0, 1) := by decide +kernel
theorem dX4_reset_33 : decode cX4_reset 33 = .ok (.getfield 19, 3) := by decide +kernel
theorem dX4_reset_36 : decode cX4_reset 36 = .ok (.iload_n 1, 1) := by decide +kernel
theorem dX4_reset_37 : decode cX4_reset 37 = .ok (.invokevirtual 49, 3) := by decide +kernel
theorem dX4_reset_40 : decode cX4_reset 40 = .ok (.iload_n 2, 1) := by decide +kernel
theorem dX4_reset_41 : decode cX4_reset 41 = .ok (.ireturn, 1) := by decide +kernel
theorem dX4_view_0 : decode cX4_view 0 = .ok (.aload_n 0, 1) := by decide +kernel
theorem dX4_view_1 : decode cX4_view 1 = .ok (.getfield 19, 3) := by decide +kernel
theorem dX4_view_4 : decode cX4_view 4 = .ok (.getfield 53, 3) := by decide +kernel
theorem dX4_view_7 : decode cX4_view 7 = .ok (.ireturn, 1) := by decide +kernel
theorem dX4_membersOf_0 : decode cX4_membersOf 0 = .ok (.aload_n 0, 1) := by decide +kernel
theorem dX4_membersOf_1 : decode cX4_membersOf 1 = .ok (.iload_n 1, 1) := by decide +kernel
theorem dX4_membersOf_2 : decode cX4_membersOf 2 = .ok (.invokevirtual 56, 3) := by decide +kernel
theorem dX4_membersOf_5 : decode cX4_membersOf 5 = .ok (.aload_n 0, 1) := by decide +kernel
theorem dX4_membersOf_6 : decode cX4_membersOf 6 = .ok (.getfield 19, 3) := by decide +kernel
theorem dX4_membersOf_9 : decode cX4_membersOf 9 = .ok (.getfield 59, 3) := by decide +kernel
theorem dX4_membersOf_12 : decode cX4_membersOf 12 = .ok (.iload_n 1, 1) := by decide +kernel
theorem dX4_membersOf_13 : decode cX4_membersOf 13 = .ok (.iaload, 1) := by decide +kernel
theorem dX4_membersOf_14 : decode cX4_membersOf 14 = .ok (.ireturn, 1) := by decide +kernel
theorem dX4_forcedIn_0 : decode cX4_forcedIn 0 = .ok (.aload_n 0, 1) := by decide +kernel
theorem dX4_forcedIn_1 : decode cX4_forcedIn 1 = .ok (.iload_n 1, 1) := by decide +kernel
theorem dX4_forcedIn_2 : decode cX4_forcedIn 2 = .ok (.invokevirtual 56, 3) := by decide +kernel
theorem dX4_forcedIn_5 : decode cX4_forcedIn 5 = .ok (.aload_n 0, 1) := by decide +kernel
theorem dX4_forcedIn_6 : decode cX4_forcedIn 6 = .ok (.getfield 19, 3) := by decide +kernel
theorem dX4_forcedIn_9 : decode cX4_forcedIn 9 = .ok (.getfield 63, 3) := by decide +kernel
theorem dX4_forcedIn_12 : decode cX4_forcedIn 12 = .ok (.iload_n 1, 1) := by decide +kernel
theorem dX4_forcedIn_13 : decode cX4_forcedIn 13 = .ok (.iaload, 1) := by decide +kernel
theorem dX4_forcedIn_14 : decode cX4_forcedIn 14 = .ok (.ireturn, 1) := by decide +kernel
theorem dX4_proposed_0 : decode cX4_proposed 0 = .ok (.aload_n 0, 1) := by decide +kernel
theorem dX4_proposed_1 : decode cX4_proposed 1 = .ok (.getfield 19, 3) := by decide +kernel
theorem dX4_proposed_4 : decode cX4_proposed 4 = .ok (.getfield 66, 3) := by decide +kernel
theorem dX4_proposed_7 : decode cX4_proposed 7 = .ok (.ireturn, 1) := by decide +kernel
theorem dX4_requestJoin_0 : decode cX4_requestJoin 0 = .ok (.iload_n 1, 1) := by decide +kernel
theorem dX4_requestJoin_1 : decode cX4_requestJoin 1 = .ok (.invokestatic 69, 3) := by decide +kernel
theorem dX4_requestJoin_4 : decode cX4_requestJoin 4 = .ok (.aload_n 0, 1) := by decide +kernel
theorem dX4_requestJoin_5 : decode cX4_requestJoin 5 = .ok (.getfield 19, 3) := by decide +kernel
theorem dX4_requestJoin_8 : decode cX4_requestJoin 8 = .ok (.iload_n 1, 1) := by decide +kernel
theorem dX4_requestJoin_9 : decode cX4_requestJoin 9 = .ok (.invokevirtual 72, 3) := by decide +kernel
theorem dX4_requestJoin_12 : decode cX4_requestJoin 12 = .ok (.ifCond .ne 13, 3) := by decide +kernel
theorem dX4_requestJoin_15 : decode cX4_requestJoin 15 = .ok (.new 76, 3) := by decide +kernel
theorem dX4_requestJoin_18 : decode cX4_requestJoin 18 = .ok (.dup, 1) := by decide +kernel
theorem dX4_requestJoin_19 : decode cX4_requestJoin 19 = .ok (.ldc 78, 2) := by decide +kernel
theorem dX4_requestJoin_21 : decode cX4_requestJoin 21 = .ok (.invokespecial 80, 3) := by decide +kernel
theorem dX4_requestJoin_24 : decode cX4_requestJoin 24 = .ok (.athrow, 1) := by decide +kernel
theorem dX4_requestJoin_25 : decode cX4_requestJoin 25 = .ok (.aload_n 0, 1) := by decide +kernel
theorem dX4_requestJoin_26 : decode cX4_requestJoin 26 = .ok (.getfield 19, 3) := by decide +kernel
theorem dX4_requestJoin_29 : decode cX4_requestJoin 29 = .ok (.iload_n 1, 1) := by decide +kernel
theorem dX4_requestJoin_30 : decode cX4_requestJoin 30 = .ok (.invokevirtual 81, 3) := by decide +kernel
theorem dX4_requestJoin_33 : decode cX4_requestJoin 33 = .ok (.ireturn, 1) := by decide +kernel
theorem dX4_requestLeave_0 : decode cX4_requestLeave 0 = .ok (.iload_n 1, 1) := by decide +kernel
theorem dX4_requestLeave_1 : decode cX4_requestLeave 1 = .ok (.invokestatic 69, 3) := by decide +kernel
theorem dX4_requestLeave_4 : decode cX4_requestLeave 4 = .ok (.aload_n 0, 1) := by decide +kernel
theorem dX4_requestLeave_5 : decode cX4_requestLeave 5 = .ok (.getfield 19, 3) := by decide +kernel
theorem dX4_requestLeave_8 : decode cX4_requestLeave 8 = .ok (.iload_n 1, 1) := by decide +kernel
theorem dX4_requestLeave_9 : decode cX4_requestLeave 9 = .ok (.invokevirtual 85, 3) := by decide +kernel
theorem dX4_requestLeave_12 : decode cX4_requestLeave 12 = .ok (.ifCond .ne 13, 3) := by decide +kernel
theorem dX4_requestLeave_15 : decode cX4_requestLeave 15 = .ok (.new 76, 3) := by decide +kernel
theorem dX4_requestLeave_18 : decode cX4_requestLeave 18 = .ok (.dup, 1) := by decide +kernel
theorem dX4_requestLeave_19 : decode cX4_requestLeave 19 = .ok (.ldc 88, 2) := by decide +kernel
theorem dX4_requestLeave_21 : decode cX4_requestLeave 21 = .ok (.invokespecial 80, 3) := by decide +kernel
theorem dX4_requestLeave_24 : decode cX4_requestLeave 24 = .ok (.athrow, 1) := by decide +kernel
theorem dX4_requestLeave_25 : decode cX4_requestLeave 25 = .ok (.aload_n 0, 1) := by decide +kernel
theorem dX4_requestLeave_26 : decode cX4_requestLeave 26 = .ok (.getfield 19, 3) := by decide +kernel
theorem dX4_requestLeave_29 : decode cX4_requestLeave 29 = .ok (.iload_n 1, 1) := by decide +kernel
theorem dX4_requestLeave_30 : decode cX4_requestLeave 30 = .ok (.invokevirtual 90, 3) := by decide +kernel
theorem dX4_requestLeave_33 : decode cX4_requestLeave 33 = .ok (.ireturn, 1) := by decide +kernel
theorem dX4_install_0 : decode cX4_install 0 = .ok (.aload_n 0, 1) := by decide +kernel
theorem dX4_install_1 : decode cX4_install 1 = .ok (.getfield 19, 3) := by decide +kernel
theorem dX4_install_4 : decode cX4_install 4 = .ok (.invokevirtual 93, 3) := by decide +kernel
theorem dX4_install_7 : decode cX4_install 7 = .ok (.ifCond .ne 13, 3) := by decide +kernel
theorem dX4_install_10 : decode cX4_install 10 = .ok (.new 76, 3) := by decide +kernel
theorem dX4_install_13 : decode cX4_install 13 = .ok (.dup, 1) := by decide +kernel
theorem dX4_install_14 : decode cX4_install 14 = .ok (.ldc 97, 2) := by decide +kernel
theorem dX4_install_16 : decode cX4_install 16 = .ok (.invokespecial 80, 3) := by decide +kernel
theorem dX4_install_19 : decode cX4_install 19 = .ok (.athrow, 1) := by decide +kernel
theorem dX4_install_20 : decode cX4_install 20 = .ok (.aload_n 0, 1) := by decide +kernel
theorem dX4_install_21 : decode cX4_install 21 = .ok (.getfield 19, 3) := by decide +kernel
theorem dX4_install_24 : decode cX4_install 24 = .ok (.invokevirtual 99, 3) := by decide +kernel
theorem dX4_install_27 : decode cX4_install 27 = .ok (.ireturn, 1) := by decide +kernel
theorem dX4_broadcast_0 : decode cX4_broadcast 0 = .ok (.iload_n 1, 1) := by decide +kernel
theorem dX4_broadcast_1 : decode cX4_broadcast 1 = .ok (.invokestatic 69, 3) := by decide +kernel
theorem dX4_broadcast_4 : decode cX4_broadcast 4 = .ok (.aload_n 0, 1) := by decide +kernel
theorem dX4_broadcast_5 : decode cX4_broadcast 5 = .ok (.getfield 19, 3) := by decide +kernel
theorem dX4_broadcast_8 : decode cX4_broadcast 8 = .ok (.iload_n 1, 1) := by decide +kernel
theorem dX4_broadcast_9 : decode cX4_broadcast 9 = .ok (.invokevirtual 103, 3) := by decide +kernel
theorem dX4_broadcast_12 : decode cX4_broadcast 12 = .ok (.ifCond .ne 13, 3) := by decide +kernel
theorem dX4_broadcast_15 : decode cX4_broadcast 15 = .ok (.new 76, 3) := by decide +kernel
theorem dX4_broadcast_18 : decode cX4_broadcast 18 = .ok (.dup, 1) := by decide +kernel
theorem dX4_broadcast_19 : decode cX4_broadcast 19 = .ok (.ldc 106, 2) := by decide +kernel
theorem dX4_broadcast_21 : decode cX4_broadcast 21 = .ok (.invokespecial 80, 3) := by decide +kernel
theorem dX4_broadcast_24 : decode cX4_broadcast 24 = .ok (.athrow, 1) := by decide +kernel
theorem dX4_broadcast_25 : decode cX4_broadcast 25 = .ok (.aload_n 0, 1) := by decide +kernel
theorem dX4_broadcast_26 : decode cX4_broadcast 26 = .ok (.getfield 19, 3) := by decide +kernel
theorem dX4_broadcast_29 : decode cX4_broadcast 29 = .ok (.iload_n 1, 1) := by decide +kernel
theorem dX4_broadcast_30 : decode cX4_broadcast 30 = .ok (.iload_n 2, 1) := by decide +kernel
theorem dX4_broadcast_31 : decode cX4_broadcast 31 = .ok (.invokevirtual 108, 3) := by decide +kernel
theorem dX4_broadcast_34 : decode cX4_broadcast 34 = .ok (.ireturn, 1) := by decide +kernel
theorem dX4_arrive_0 : decode cX4_arrive 0 = .ok (.iload_n 1, 1) := by decide +kernel
theorem dX4_arrive_1 : decode cX4_arrive 1 = .ok (.invokestatic 69, 3) := by decide +kernel
theorem dX4_arrive_4 : decode cX4_arrive 4 = .ok (.aload_n 0, 1) := by decide +kernel
theorem dX4_arrive_5 : decode cX4_arrive 5 = .ok (.iload_n 2, 1) := by decide +kernel
theorem dX4_arrive_6 : decode cX4_arrive 6 = .ok (.invokevirtual 112, 3) := by decide +kernel
theorem dX4_arrive_9 : decode cX4_arrive 9 = .ok (.aload_n 0, 1) := by decide +kernel
theorem dX4_arrive_10 : decode cX4_arrive 10 = .ok (.iload_n 1, 1) := by decide +kernel
theorem dX4_arrive_11 : decode cX4_arrive 11 = .ok (.iload_n 2, 1) := by decide +kernel
theorem dX4_arrive_12 : decode cX4_arrive 12 = .ok (.invokevirtual 115, 3) := by decide +kernel
theorem dX4_arrive_15 : decode cX4_arrive 15 = .ok (.aload_n 0, 1) := by decide +kernel
theorem dX4_arrive_16 : decode cX4_arrive 16 = .ok (.getfield 19, 3) := by decide +kernel
theorem dX4_arrive_19 : decode cX4_arrive 19 = .ok (.iload_n 1, 1) := by decide +kernel
theorem dX4_arrive_20 : decode cX4_arrive 20 = .ok (.iload_n 2, 1) := by decide +kernel
theorem dX4_arrive_21 : decode cX4_arrive 21 = .ok (.invokevirtual 119, 3) := by decide +kernel
theorem dX4_arrive_24 : decode cX4_arrive 24 = .ok (.ireturn, 1) := by decide +kernel
theorem dX4_arriveAll_0 : decode cX4_arriveAll 0 = .ok (.iload_n 1, 1) := by decide +kernel
theorem dX4_arriveAll_1 : decode cX4_arriveAll 1 = .ok (.invokestatic 69, 3) := by decide +kernel
theorem dX4_arriveAll_4 : decode cX4_arriveAll 4 = .ok (.aload_n 0, 1) := by decide +kernel
theorem dX4_arriveAll_5 : decode cX4_arriveAll 5 = .ok (.iload_n 1, 1) := by decide +kernel
theorem dX4_arriveAll_6 : decode cX4_arriveAll 6 = .ok (.invokevirtual 122, 3) := by decide +kernel
theorem dX4_arriveAll_9 : decode cX4_arriveAll 9 = .ok (.aload_n 0, 1) := by decide +kernel
theorem dX4_arriveAll_10 : decode cX4_arriveAll 10 = .ok (.getfield 19, 3) := by decide +kernel
theorem dX4_arriveAll_13 : decode cX4_arriveAll 13 = .ok (.iload_n 1, 1) := by decide +kernel
theorem dX4_arriveAll_14 : decode cX4_arriveAll 14 = .ok (.invokevirtual 125, 3) := by decide +kernel
theorem dX4_arriveAll_17 : decode cX4_arriveAll 17 = .ok (.ireturn, 1) := by decide +kernel
theorem dX4_gossip_0 : decode cX4_gossip 0 = .ok (.iload_n 1, 1) := by decide +kernel
theorem dX4_gossip_1 : decode cX4_gossip 1 = .ok (.invokestatic 69, 3) := by decide +kernel
theorem dX4_gossip_4 : decode cX4_gossip 4 = .ok (.iload_n 2, 1) := by decide +kernel
theorem dX4_gossip_5 : decode cX4_gossip 5 = .ok (.invokestatic 69, 3) := by decide +kernel
theorem dX4_gossip_8 : decode cX4_gossip 8 = .ok (.aload_n 0, 1) := by decide +kernel
theorem dX4_gossip_9 : decode cX4_gossip 9 = .ok (.getfield 19, 3) := by decide +kernel
theorem dX4_gossip_12 : decode cX4_gossip 12 = .ok (.iload_n 1, 1) := by decide +kernel
theorem dX4_gossip_13 : decode cX4_gossip 13 = .ok (.iload_n 2, 1) := by decide +kernel
theorem dX4_gossip_14 : decode cX4_gossip 14 = .ok (.invokevirtual 128, 3) := by decide +kernel
theorem dX4_gossip_17 : decode cX4_gossip 17 = .ok (.ifCond .ne 13, 3) := by decide +kernel
theorem dX4_gossip_20 : decode cX4_gossip 20 = .ok (.new 76, 3) := by decide +kernel
theorem dX4_gossip_23 : decode cX4_gossip 23 = .ok (.dup, 1) := by decide +kernel
theorem dX4_gossip_24 : decode cX4_gossip 24 = .ok (.ldc 132, 2) := by decide +kernel
theorem dX4_gossip_26 : decode cX4_gossip 26 = .ok (.invokespecial 80, 3) := by decide +kernel
theorem dX4_gossip_29 : decode cX4_gossip 29 = .ok (.athrow, 1) := by decide +kernel
theorem dX4_gossip_30 : decode cX4_gossip 30 = .ok (.aload_n 0, 1) := by decide +kernel
theorem dX4_gossip_31 : decode cX4_gossip 31 = .ok (.getfield 19, 3) := by decide +kernel
theorem dX4_gossip_34 : decode cX4_gossip 34 = .ok (.iload_n 1, 1) := by decide +kernel
theorem dX4_gossip_35 : decode cX4_gossip 35 = .ok (.iload_n 2, 1) := by decide +kernel
theorem dX4_gossip_36 : decode cX4_gossip 36 = .ok (.invokevirtual 134, 3) := by decide +kernel
theorem dX4_gossip_39 : decode cX4_gossip 39 = .ok (.ireturn, 1) := by decide +kernel
theorem dX4_messageCount_0 : decode cX4_messageCount 0 = .ok (.aload_n 0, 1) := by decide +kernel
theorem dX4_messageCount_1 : decode cX4_messageCount 1 = .ok (.getfield 19, 3) := by decide +kernel
theorem dX4_messageCount_4 : decode cX4_messageCount 4 = .ok (.getfield 40, 3) := by decide +kernel
theorem dX4_messageCount_7 : decode cX4_messageCount 7 = .ok (.getfield 44, 3) := by decide +kernel
theorem dX4_messageCount_10 : decode cX4_messageCount 10 = .ok (.ireturn, 1) := by decide +kernel
theorem dX4_message_0 : decode cX4_message 0 = .ok (.aload_n 0, 1) := by decide +kernel
theorem dX4_message_1 : decode cX4_message 1 = .ok (.iload_n 1, 1) := by decide +kernel
theorem dX4_message_2 : decode cX4_message 2 = .ok (.invokevirtual 112, 3) := by decide +kernel
theorem dX4_message_5 : decode cX4_message 5 = .ok (.iload_n 2, 1) := by decide +kernel
theorem dX4_message_6 : decode cX4_message 6 = .ok (.tableswitch 82 0 3 #[30, 43, 56, 69], 30) := by decide +kernel
theorem dX4_message_36 : decode cX4_message 36 = .ok (.aload_n 0, 1) := by decide +kernel
theorem dX4_message_37 : decode cX4_message 37 = .ok (.getfield 19, 3) := by decide +kernel
theorem dX4_message_40 : decode cX4_message 40 = .ok (.getfield 40, 3) := by decide +kernel
theorem dX4_message_43 : decode cX4_message 43 = .ok (.getfield 137, 3) := by decide +kernel
theorem dX4_message_46 : decode cX4_message 46 = .ok (.iload_n 1, 1) := by decide +kernel
theorem dX4_message_47 : decode cX4_message 47 = .ok (.iaload, 1) := by decide +kernel
theorem dX4_message_48 : decode cX4_message 48 = .ok (.ireturn, 1) := by decide +kernel
theorem dX4_message_49 : decode cX4_message 49 = .ok (.aload_n 0, 1) := by decide +kernel
theorem dX4_message_50 : decode cX4_message 50 = .ok (.getfield 19, 3) := by decide +kernel
theorem dX4_message_53 : decode cX4_message 53 = .ok (.getfield 40, 3) := by decide +kernel
theorem dX4_message_56 : decode cX4_message 56 = .ok (.getfield 140, 3) := by decide +kernel
theorem dX4_message_59 : decode cX4_message 59 = .ok (.iload_n 1, 1) := by decide +kernel
theorem dX4_message_60 : decode cX4_message 60 = .ok (.iaload, 1) := by decide +kernel
theorem dX4_message_61 : decode cX4_message 61 = .ok (.ireturn, 1) := by decide +kernel
theorem dX4_message_62 : decode cX4_message 62 = .ok (.aload_n 0, 1) := by decide +kernel
theorem dX4_message_63 : decode cX4_message 63 = .ok (.getfield 19, 3) := by decide +kernel
theorem dX4_message_66 : decode cX4_message 66 = .ok (.getfield 40, 3) := by decide +kernel
theorem dX4_message_69 : decode cX4_message 69 = .ok (.getfield 143, 3) := by decide +kernel
theorem dX4_message_72 : decode cX4_message 72 = .ok (.iload_n 1, 1) := by decide +kernel
theorem dX4_message_73 : decode cX4_message 73 = .ok (.iaload, 1) := by decide +kernel
theorem dX4_message_74 : decode cX4_message 74 = .ok (.ireturn, 1) := by decide +kernel
theorem dX4_message_75 : decode cX4_message 75 = .ok (.aload_n 0, 1) := by decide +kernel
theorem dX4_message_76 : decode cX4_message 76 = .ok (.getfield 19, 3) := by decide +kernel
theorem dX4_message_79 : decode cX4_message 79 = .ok (.getfield 40, 3) := by decide +kernel
theorem dX4_message_82 : decode cX4_message 82 = .ok (.getfield 146, 3) := by decide +kernel
theorem dX4_message_85 : decode cX4_message 85 = .ok (.iload_n 1, 1) := by decide +kernel
theorem dX4_message_86 : decode cX4_message 86 = .ok (.iaload, 1) := by decide +kernel
theorem dX4_message_87 : decode cX4_message 87 = .ok (.ireturn, 1) := by decide +kernel
theorem dX4_message_88 : decode cX4_message 88 = .ok (.new 33, 3) := by decide +kernel
theorem dX4_message_91 : decode cX4_message 91 = .ok (.dup, 1) := by decide +kernel
theorem dX4_message_92 : decode cX4_message 92 = .ok (.ldc 149, 2) := by decide +kernel
theorem dX4_message_94 : decode cX4_message 94 = .ok (.invokespecial 37, 3) := by decide +kernel
theorem dX4_message_97 : decode cX4_message 97 = .ok (.athrow, 1) := by decide +kernel
theorem dX4_messageClock_0 : decode cX4_messageClock 0 = .ok (.aload_n 0, 1) := by decide +kernel
theorem dX4_messageClock_1 : decode cX4_messageClock 1 = .ok (.iload_n 1, 1) := by decide +kernel
theorem dX4_messageClock_2 : decode cX4_messageClock 2 = .ok (.invokevirtual 112, 3) := by decide +kernel
theorem dX4_messageClock_5 : decode cX4_messageClock 5 = .ok (.iload_n 2, 1) := by decide +kernel
theorem dX4_messageClock_6 : decode cX4_messageClock 6 = .ok (.invokestatic 69, 3) := by decide +kernel
theorem dX4_messageClock_9 : decode cX4_messageClock 9 = .ok (.aload_n 0, 1) := by decide +kernel
theorem dX4_messageClock_10 : decode cX4_messageClock 10 = .ok (.getfield 19, 3) := by decide +kernel
theorem dX4_messageClock_13 : decode cX4_messageClock 13 = .ok (.getfield 40, 3) := by decide +kernel
theorem dX4_messageClock_16 : decode cX4_messageClock 16 = .ok (.iload_n 1, 1) := by decide +kernel
theorem dX4_messageClock_17 : decode cX4_messageClock 17 = .ok (.iload_n 2, 1) := by decide +kernel
theorem dX4_messageClock_18 : decode cX4_messageClock 18 = .ok (.invokevirtual 151, 3) := by decide +kernel
theorem dX4_messageClock_21 : decode cX4_messageClock 21 = .ok (.ireturn, 1) := by decide +kernel
theorem dX4_isCause_0 : decode cX4_isCause 0 = .ok (.aload_n 0, 1) := by decide +kernel
theorem dX4_isCause_1 : decode cX4_isCause 1 = .ok (.iload_n 1, 1) := by decide +kernel
theorem dX4_isCause_2 : decode cX4_isCause 2 = .ok (.invokevirtual 112, 3) := by decide +kernel
theorem dX4_isCause_5 : decode cX4_isCause 5 = .ok (.aload_n 0, 1) := by decide +kernel
theorem dX4_isCause_6 : decode cX4_isCause 6 = .ok (.iload_n 2, 1) := by decide +kernel
theorem dX4_isCause_7 : decode cX4_isCause 7 = .ok (.invokevirtual 112, 3) := by decide +kernel
theorem dX4_isCause_10 : decode cX4_isCause 10 = .ok (.aload_n 0, 1) := by decide +kernel
theorem dX4_isCause_11 : decode cX4_isCause 11 = .ok (.getfield 19, 3) := by decide +kernel
theorem dX4_isCause_14 : decode cX4_isCause 14 = .ok (.getfield 40, 3) := by decide +kernel
theorem dX4_isCause_17 : decode cX4_isCause 17 = .ok (.iload_n 1, 1) := by decide +kernel
theorem dX4_isCause_18 : decode cX4_isCause 18 = .ok (.iload_n 2, 1) := by decide +kernel
theorem dX4_isCause_19 : decode cX4_isCause 19 = .ok (.invokevirtual 154, 3) := by decide +kernel
theorem dX4_isCause_22 : decode cX4_isCause 22 = .ok (.ireturn, 1) := by decide +kernel
theorem dX4_causes_0 : decode cX4_causes 0 = .ok (.aload_n 0, 1) := by decide +kernel
theorem dX4_causes_1 : decode cX4_causes 1 = .ok (.iload_n 1, 1) := by decide +kernel
theorem dX4_causes_2 : decode cX4_causes 2 = .ok (.invokevirtual 112, 3) := by decide +kernel
theorem dX4_causes_5 : decode cX4_causes 5 = .ok (.aload_n 0, 1) := by decide +kernel
theorem dX4_causes_6 : decode cX4_causes 6 = .ok (.getfield 19, 3) := by decide +kernel
theorem dX4_causes_9 : decode cX4_causes 9 = .ok (.getfield 40, 3) := by decide +kernel
theorem dX4_causes_12 : decode cX4_causes 12 = .ok (.iload_n 1, 1) := by decide +kernel
theorem dX4_causes_13 : decode cX4_causes 13 = .ok (.invokevirtual 157, 3) := by decide +kernel
theorem dX4_causes_16 : decode cX4_causes 16 = .ok (.ireturn, 1) := by decide +kernel
theorem dX4_concurrent_0 : decode cX4_concurrent 0 = .ok (.aload_n 0, 1) := by decide +kernel
theorem dX4_concurrent_1 : decode cX4_concurrent 1 = .ok (.iload_n 1, 1) := by decide +kernel
theorem dX4_concurrent_2 : decode cX4_concurrent 2 = .ok (.invokevirtual 112, 3) := by decide +kernel
theorem dX4_concurrent_5 : decode cX4_concurrent 5 = .ok (.aload_n 0, 1) := by decide +kernel
theorem dX4_concurrent_6 : decode cX4_concurrent 6 = .ok (.getfield 19, 3) := by decide +kernel
theorem dX4_concurrent_9 : decode cX4_concurrent 9 = .ok (.getfield 40, 3) := by decide +kernel
theorem dX4_concurrent_12 : decode cX4_concurrent 12 = .ok (.iload_n 1, 1) := by decide +kernel
theorem dX4_concurrent_13 : decode cX4_concurrent 13 = .ok (.invokevirtual 160, 3) := by decide +kernel
theorem dX4_concurrent_16 : decode cX4_concurrent 16 = .ok (.ireturn, 1) := by decide +kernel
theorem dX4_longestChain_0 : decode cX4_longestChain 0 = .ok (.aload_n 0, 1) := by decide +kernel
theorem dX4_longestChain_1 : decode cX4_longestChain 1 = .ok (.iload_n 1, 1) := by decide +kernel
theorem dX4_longestChain_2 : decode cX4_longestChain 2 = .ok (.invokevirtual 56, 3) := by decide +kernel
theorem dX4_longestChain_5 : decode cX4_longestChain 5 = .ok (.aload_n 0, 1) := by decide +kernel
theorem dX4_longestChain_6 : decode cX4_longestChain 6 = .ok (.getfield 19, 3) := by decide +kernel
theorem dX4_longestChain_9 : decode cX4_longestChain 9 = .ok (.getfield 40, 3) := by decide +kernel
theorem dX4_longestChain_12 : decode cX4_longestChain 12 = .ok (.iload_n 1, 1) := by decide +kernel
theorem dX4_longestChain_13 : decode cX4_longestChain 13 = .ok (.invokevirtual 163, 3) := by decide +kernel
theorem dX4_longestChain_16 : decode cX4_longestChain 16 = .ok (.ireturn, 1) := by decide +kernel
theorem dX4_duplicates_0 : decode cX4_duplicates 0 = .ok (.aload_n 0, 1) := by decide +kernel
theorem dX4_duplicates_1 : decode cX4_duplicates 1 = .ok (.getfield 19, 3) := by decide +kernel
theorem dX4_duplicates_4 : decode cX4_duplicates 4 = .ok (.getfield 166, 3) := by decide +kernel
theorem dX4_duplicates_7 : decode cX4_duplicates 7 = .ok (.ireturn, 1) := by decide +kernel
theorem dX4_logLength_0 : decode cX4_logLength 0 = .ok (.iload_n 1, 1) := by decide +kernel
theorem dX4_logLength_1 : decode cX4_logLength 1 = .ok (.invokestatic 69, 3) := by decide +kernel
theorem dX4_logLength_4 : decode cX4_logLength 4 = .ok (.aload_n 0, 1) := by decide +kernel
theorem dX4_logLength_5 : decode cX4_logLength 5 = .ok (.getfield 19, 3) := by decide +kernel
theorem dX4_logLength_8 : decode cX4_logLength 8 = .ok (.getfield 169, 3) := by decide +kernel
theorem dX4_logLength_11 : decode cX4_logLength 11 = .ok (.iload_n 1, 1) := by decide +kernel
theorem dX4_logLength_12 : decode cX4_logLength 12 = .ok (.aaload, 1) := by decide +kernel
theorem dX4_logLength_13 : decode cX4_logLength 13 = .ok (.getfield 173, 3) := by decide +kernel
theorem dX4_logLength_16 : decode cX4_logLength 16 = .ok (.ireturn, 1) := by decide +kernel
theorem dX4_logged_0 : decode cX4_logged 0 = .ok (.iload_n 1, 1) := by decide +kernel
theorem dX4_logged_1 : decode cX4_logged 1 = .ok (.invokestatic 69, 3) := by decide +kernel
theorem dX4_logged_4 : decode cX4_logged 4 = .ok (.iload_n 2, 1) := by decide +kernel
theorem dX4_logged_5 : decode cX4_logged 5 = .ok (.ifCond .lt 19, 3) := by decide +kernel
theorem dX4_logged_8 : decode cX4_logged 8 = .ok (.iload_n 2, 1) := by decide +kernel
theorem dX4_logged_9 : decode cX4_logged 9 = .ok (.aload_n 0, 1) := by decide +kernel
theorem dX4_logged_10 : decode cX4_logged 10 = .ok (.getfield 19, 3) := by decide +kernel
theorem dX4_logged_13 : decode cX4_logged 13 = .ok (.getfield 169, 3) := by decide +kernel
theorem dX4_logged_16 : decode cX4_logged 16 = .ok (.iload_n 1, 1) := by decide +kernel
theorem dX4_logged_17 : decode cX4_logged 17 = .ok (.aaload, 1) := by decide +kernel
theorem dX4_logged_18 : decode cX4_logged 18 = .ok (.getfield 173, 3) := by decide +kernel
theorem dX4_logged_21 : decode cX4_logged 21 = .ok (.if_icmp .lt 13, 3) := by decide +kernel
theorem dX4_logged_24 : decode cX4_logged 24 = .ok (.new 178, 3) := by decide +kernel
theorem dX4_logged_27 : decode cX4_logged 27 = .ok (.dup, 1) := by decide +kernel
theorem dX4_logged_28 : decode cX4_logged 28 = .ok (.ldc 180, 2) := by decide +kernel
theorem dX4_logged_30 : decode cX4_logged 30 = .ok (.invokespecial 182, 3) := by decide +kernel
theorem dX4_logged_33 : decode cX4_logged 33 = .ok (.athrow, 1) := by decide +kernel
theorem dX4_logged_34 : decode cX4_logged 34 = .ok (.aload_n 0, 1) := by decide +kernel
theorem dX4_logged_35 : decode cX4_logged 35 = .ok (.getfield 19, 3) := by decide +kernel
theorem dX4_logged_38 : decode cX4_logged 38 = .ok (.getfield 169, 3) := by decide +kernel
theorem dX4_logged_41 : decode cX4_logged 41 = .ok (.iload_n 1, 1) := by decide +kernel
theorem dX4_logged_42 : decode cX4_logged 42 = .ok (.aaload, 1) := by decide +kernel
theorem dX4_logged_43 : decode cX4_logged 43 = .ok (.getfield 183, 3) := by decide +kernel
theorem dX4_logged_46 : decode cX4_logged 46 = .ok (.iload_n 2, 1) := by decide +kernel
theorem dX4_logged_47 : decode cX4_logged 47 = .ok (.iaload, 1) := by decide +kernel
theorem dX4_logged_48 : decode cX4_logged 48 = .ok (.ireturn, 1) := by decide +kernel
theorem dX4_position_0 : decode cX4_position 0 = .ok (.iload_n 1, 1) := by decide +kernel
theorem dX4_position_1 : decode cX4_position 1 = .ok (.invokestatic 69, 3) := by decide +kernel
theorem dX4_position_4 : decode cX4_position 4 = .ok (.aload_n 0, 1) := by decide +kernel
theorem dX4_position_5 : decode cX4_position 5 = .ok (.iload_n 2, 1) := by decide +kernel
theorem dX4_position_6 : decode cX4_position 6 = .ok (.invokevirtual 112, 3) := by decide +kernel
theorem dX4_position_9 : decode cX4_position 9 = .ok (.aload_n 0, 1) := by decide +kernel
theorem dX4_position_10 : decode cX4_position 10 = .ok (.iload_n 1, 1) := by decide +kernel
theorem dX4_position_11 : decode cX4_position 11 = .ok (.iload_n 2, 1) := by decide +kernel
theorem dX4_position_12 : decode cX4_position 12 = .ok (.invokevirtual 186, 3) := by decide +kernel
theorem dX4_position_15 : decode cX4_position 15 = .ok (.aload_n 0, 1) := by decide +kernel
theorem dX4_position_16 : decode cX4_position 16 = .ok (.getfield 19, 3) := by decide +kernel
theorem dX4_position_19 : decode cX4_position 19 = .ok (.getfield 169, 3) := by decide +kernel
theorem dX4_position_22 : decode cX4_position 22 = .ok (.iload_n 1, 1) := by decide +kernel
theorem dX4_position_23 : decode cX4_position 23 = .ok (.aaload, 1) := by decide +kernel
theorem dX4_position_24 : decode cX4_position 24 = .ok (.getfield 189, 3) := by decide +kernel
theorem dX4_position_27 : decode cX4_position 27 = .ok (.iload_n 2, 1) := by decide +kernel
theorem dX4_position_28 : decode cX4_position 28 = .ok (.iaload, 1) := by decide +kernel
theorem dX4_position_29 : decode cX4_position 29 = .ok (.ireturn, 1) := by decide +kernel
theorem dX4_state_0 : decode cX4_state 0 = .ok (.iload_n 1, 1) := by decide +kernel
theorem dX4_state_1 : decode cX4_state 1 = .ok (.invokestatic 69, 3) := by decide +kernel
theorem dX4_state_4 : decode cX4_state 4 = .ok (.aload_n 0, 1) := by decide +kernel
theorem dX4_state_5 : decode cX4_state 5 = .ok (.getfield 19, 3) := by decide +kernel
theorem dX4_state_8 : decode cX4_state 8 = .ok (.getfield 169, 3) := by decide +kernel
theorem dX4_state_11 : decode cX4_state 11 = .ok (.iload_n 1, 1) := by decide +kernel
theorem dX4_state_12 : decode cX4_state 12 = .ok (.aaload, 1) := by decide +kernel
theorem dX4_state_13 : decode cX4_state 13 = .ok (.getfield 192, 3) := by decide +kernel
theorem dX4_state_16 : decode cX4_state 16 = .ok (.ireturn, 1) := by decide +kernel
theorem dX4_clock_0 : decode cX4_clock 0 = .ok (.iload_n 1, 1) := by decide +kernel
theorem dX4_clock_1 : decode cX4_clock 1 = .ok (.invokestatic 69, 3) := by decide +kernel
theorem dX4_clock_4 : decode cX4_clock 4 = .ok (.iload_n 2, 1) := by decide +kernel
theorem dX4_clock_5 : decode cX4_clock 5 = .ok (.invokestatic 69, 3) := by decide +kernel
theorem dX4_clock_8 : decode cX4_clock 8 = .ok (.aload_n 0, 1) := by decide +kernel
theorem dX4_clock_9 : decode cX4_clock 9 = .ok (.iload_n 1, 1) := by decide +kernel
theorem dX4_clock_10 : decode cX4_clock 10 = .ok (.invokevirtual 122, 3) := by decide +kernel
theorem dX4_clock_13 : decode cX4_clock 13 = .ok (.aload_n 0, 1) := by decide +kernel
theorem dX4_clock_14 : decode cX4_clock 14 = .ok (.getfield 19, 3) := by decide +kernel
theorem dX4_clock_17 : decode cX4_clock 17 = .ok (.getfield 169, 3) := by decide +kernel
theorem dX4_clock_20 : decode cX4_clock 20 = .ok (.iload_n 1, 1) := by decide +kernel
theorem dX4_clock_21 : decode cX4_clock 21 = .ok (.aaload, 1) := by decide +kernel
theorem dX4_clock_22 : decode cX4_clock 22 = .ok (.iload_n 2, 1) := by decide +kernel
theorem dX4_clock_23 : decode cX4_clock 23 = .ok (.invokevirtual 195, 3) := by decide +kernel
theorem dX4_clock_26 : decode cX4_clock 26 = .ok (.ireturn, 1) := by decide +kernel
theorem dX4_buffered_0 : decode cX4_buffered 0 = .ok (.iload_n 1, 1) := by decide +kernel
theorem dX4_buffered_1 : decode cX4_buffered 1 = .ok (.invokestatic 69, 3) := by decide +kernel
theorem dX4_buffered_4 : decode cX4_buffered 4 = .ok (.aload_n 0, 1) := by decide +kernel
theorem dX4_buffered_5 : decode cX4_buffered 5 = .ok (.iload_n 1, 1) := by decide +kernel
theorem dX4_buffered_6 : decode cX4_buffered 6 = .ok (.invokevirtual 122, 3) := by decide +kernel
theorem dX4_buffered_9 : decode cX4_buffered 9 = .ok (.aload_n 0, 1) := by decide +kernel
theorem dX4_buffered_10 : decode cX4_buffered 10 = .ok (.getfield 19, 3) := by decide +kernel
theorem dX4_buffered_13 : decode cX4_buffered 13 = .ok (.iload_n 1, 1) := by decide +kernel
theorem dX4_buffered_14 : decode cX4_buffered 14 = .ok (.iconst (-1), 1) := by decide +kernel
theorem dX4_buffered_15 : decode cX4_buffered 15 = .ok (.invokevirtual 197, 3) := by decide +kernel
theorem dX4_buffered_18 : decode cX4_buffered 18 = .ok (.ireturn, 1) := by decide +kernel
theorem dX4_bufferedMessage_0 : decode cX4_bufferedMessage 0 = .ok (.iload_n 1, 1) := by decide +kernel
theorem dX4_bufferedMessage_1 : decode cX4_bufferedMessage 1 = .ok (.invokestatic 69, 3) := by decide +kernel
theorem dX4_bufferedMessage_4 : decode cX4_bufferedMessage 4 = .ok (.aload_n 0, 1) := by decide +kernel
theorem dX4_bufferedMessage_5 : decode cX4_bufferedMessage 5 = .ok (.iload_n 1, 1) := by decide +kernel
theorem dX4_bufferedMessage_6 : decode cX4_bufferedMessage 6 = .ok (.invokevirtual 122, 3) := by decide +kernel
theorem dX4_bufferedMessage_9 : decode cX4_bufferedMessage 9 = .ok (.aload_n 0, 1) := by decide +kernel
theorem dX4_bufferedMessage_10 : decode cX4_bufferedMessage 10 = .ok (.getfield 19, 3) := by decide +kernel
theorem dX4_bufferedMessage_13 : decode cX4_bufferedMessage 13 = .ok (.iload_n 1, 1) := by decide +kernel
theorem dX4_bufferedMessage_14 : decode cX4_bufferedMessage 14 = .ok (.iload_n 2, 1) := by decide +kernel
theorem dX4_bufferedMessage_15 : decode cX4_bufferedMessage 15 = .ok (.invokevirtual 200, 3) := by decide +kernel
theorem dX4_bufferedMessage_18 : decode cX4_bufferedMessage 18 = .ok (.istore_n 3, 1) := by decide +kernel
theorem dX4_bufferedMessage_19 : decode cX4_bufferedMessage 19 = .ok (.iload_n 3, 1) := by decide +kernel
theorem dX4_bufferedMessage_20 : decode cX4_bufferedMessage 20 = .ok (.iconst (-1), 1) := by decide +kernel
theorem dX4_bufferedMessage_21 : decode cX4_bufferedMessage 21 = .ok (.if_icmp .ne 13, 3) := by decide +kernel
theorem dX4_bufferedMessage_24 : decode cX4_bufferedMessage 24 = .ok (.new 203, 3) := by decide +kernel
theorem dX4_bufferedMessage_27 : decode cX4_bufferedMessage 27 = .ok (.dup, 1) := by decide +kernel
theorem dX4_bufferedMessage_28 : decode cX4_bufferedMessage 28 = .ok (.ldc 205, 2) := by decide +kernel
theorem dX4_bufferedMessage_30 : decode cX4_bufferedMessage 30 = .ok (.invokespecial 207, 3) := by decide +kernel
theorem dX4_bufferedMessage_33 : decode cX4_bufferedMessage 33 = .ok (.athrow, 1) := by decide +kernel
theorem dX4_bufferedMessage_34 : decode cX4_bufferedMessage 34 = .ok (.iload_n 3, 1) := by decide +kernel
theorem dX4_bufferedMessage_35 : decode cX4_bufferedMessage 35 = .ok (.ireturn, 1) := by decide +kernel
theorem dX4_missing_0 : decode cX4_missing 0 = .ok (.iload_n 1, 1) := by decide +kernel
theorem dX4_missing_1 : decode cX4_missing 1 = .ok (.invokestatic 69, 3) := by decide +kernel
theorem dX4_missing_4 : decode cX4_missing 4 = .ok (.aload_n 0, 1) := by decide +kernel
theorem dX4_missing_5 : decode cX4_missing 5 = .ok (.iload_n 2, 1) := by decide +kernel
theorem dX4_missing_6 : decode cX4_missing 6 = .ok (.invokevirtual 112, 3) := by decide +kernel
theorem dX4_missing_9 : decode cX4_missing 9 = .ok (.aload_n 0, 1) := by decide +kernel
theorem dX4_missing_10 : decode cX4_missing 10 = .ok (.iload_n 1, 1) := by decide +kernel
theorem dX4_missing_11 : decode cX4_missing 11 = .ok (.iload_n 2, 1) := by decide +kernel
theorem dX4_missing_12 : decode cX4_missing 12 = .ok (.invokevirtual 115, 3) := by decide +kernel
theorem dX4_missing_15 : decode cX4_missing 15 = .ok (.aload_n 0, 1) := by decide +kernel
theorem dX4_missing_16 : decode cX4_missing 16 = .ok (.getfield 19, 3) := by decide +kernel
theorem dX4_missing_19 : decode cX4_missing 19 = .ok (.iload_n 1, 1) := by decide +kernel
theorem dX4_missing_20 : decode cX4_missing 20 = .ok (.iload_n 2, 1) := by decide +kernel
theorem dX4_missing_21 : decode cX4_missing 21 = .ok (.invokevirtual 208, 3) := by decide +kernel
theorem dX4_missing_24 : decode cX4_missing 24 = .ok (.ireturn, 1) := by decide +kernel
theorem dX4_inTransit_0 : decode cX4_inTransit 0 = .ok (.iload_n 1, 1) := by decide +kernel
theorem dX4_inTransit_1 : decode cX4_inTransit 1 = .ok (.invokestatic 69, 3) := by decide +kernel
theorem dX4_inTransit_4 : decode cX4_inTransit 4 = .ok (.aload_n 0, 1) := by decide +kernel
theorem dX4_inTransit_5 : decode cX4_inTransit 5 = .ok (.iload_n 1, 1) := by decide +kernel
theorem dX4_inTransit_6 : decode cX4_inTransit 6 = .ok (.invokevirtual 122, 3) := by decide +kernel
theorem dX4_inTransit_9 : decode cX4_inTransit 9 = .ok (.aload_n 0, 1) := by decide +kernel
theorem dX4_inTransit_10 : decode cX4_inTransit 10 = .ok (.getfield 19, 3) := by decide +kernel
theorem dX4_inTransit_13 : decode cX4_inTransit 13 = .ok (.iload_n 1, 1) := by decide +kernel
theorem dX4_inTransit_14 : decode cX4_inTransit 14 = .ok (.bipush (-2), 2) := by decide +kernel
theorem dX4_inTransit_16 : decode cX4_inTransit 16 = .ok (.invokevirtual 197, 3) := by decide +kernel
theorem dX4_inTransit_19 : decode cX4_inTransit 19 = .ok (.ireturn, 1) := by decide +kernel
theorem dX4_disagreements_0 : decode cX4_disagreements 0 = .ok (.iload_n 1, 1) := by decide +kernel
theorem dX4_disagreements_1 : decode cX4_disagreements 1 = .ok (.invokestatic 69, 3) := by decide +kernel
theorem dX4_disagreements_4 : decode cX4_disagreements 4 = .ok (.iload_n 2, 1) := by decide +kernel
theorem dX4_disagreements_5 : decode cX4_disagreements 5 = .ok (.invokestatic 69, 3) := by decide +kernel
theorem dX4_disagreements_8 : decode cX4_disagreements 8 = .ok (.aload_n 0, 1) := by decide +kernel
theorem dX4_disagreements_9 : decode cX4_disagreements 9 = .ok (.getfield 19, 3) := by decide +kernel
theorem dX4_disagreements_12 : decode cX4_disagreements 12 = .ok (.getfield 169, 3) := by decide +kernel
theorem dX4_disagreements_15 : decode cX4_disagreements 15 = .ok (.iload_n 1, 1) := by decide +kernel
theorem dX4_disagreements_16 : decode cX4_disagreements 16 = .ok (.aaload, 1) := by decide +kernel
theorem dX4_disagreements_17 : decode cX4_disagreements 17 = .ok (.aload_n 0, 1) := by decide +kernel
theorem dX4_disagreements_18 : decode cX4_disagreements 18 = .ok (.getfield 19, 3) := by decide +kernel
theorem dX4_disagreements_21 : decode cX4_disagreements 21 = .ok (.getfield 169, 3) := by decide +kernel
theorem dX4_disagreements_24 : decode cX4_disagreements 24 = .ok (.iload_n 2, 1) := by decide +kernel
theorem dX4_disagreements_25 : decode cX4_disagreements 25 = .ok (.aaload, 1) := by decide +kernel
theorem dX4_disagreements_26 : decode cX4_disagreements 26 = .ok (.invokevirtual 211, 3) := by decide +kernel
theorem dX4_disagreements_29 : decode cX4_disagreements 29 = .ok (.ireturn, 1) := by decide +kernel
theorem dX4_overlap_0 : decode cX4_overlap 0 = .ok (.iload_n 1, 1) := by decide +kernel
theorem dX4_overlap_1 : decode cX4_overlap 1 = .ok (.invokestatic 69, 3) := by decide +kernel
theorem dX4_overlap_4 : decode cX4_overlap 4 = .ok (.iload_n 2, 1) := by decide +kernel
theorem dX4_overlap_5 : decode cX4_overlap 5 = .ok (.invokestatic 69, 3) := by decide +kernel
theorem dX4_overlap_8 : decode cX4_overlap 8 = .ok (.aload_n 0, 1) := by decide +kernel
theorem dX4_overlap_9 : decode cX4_overlap 9 = .ok (.getfield 19, 3) := by decide +kernel
theorem dX4_overlap_12 : decode cX4_overlap 12 = .ok (.getfield 169, 3) := by decide +kernel
theorem dX4_overlap_15 : decode cX4_overlap 15 = .ok (.iload_n 1, 1) := by decide +kernel
theorem dX4_overlap_16 : decode cX4_overlap 16 = .ok (.aaload, 1) := by decide +kernel
theorem dX4_overlap_17 : decode cX4_overlap 17 = .ok (.getfield 173, 3) := by decide +kernel
theorem dX4_overlap_20 : decode cX4_overlap 20 = .ok (.istore_n 3, 1) := by decide +kernel
theorem dX4_overlap_21 : decode cX4_overlap 21 = .ok (.iload_n 3, 1) := by decide +kernel
theorem dX4_overlap_22 : decode cX4_overlap 22 = .ok (.ifCond .ne 13, 3) := by decide +kernel
theorem dX4_overlap_25 : decode cX4_overlap 25 = .ok (.new 215, 3) := by decide +kernel
theorem dX4_overlap_28 : decode cX4_overlap 28 = .ok (.dup, 1) := by decide +kernel
theorem dX4_overlap_29 : decode cX4_overlap 29 = .ok (.ldc 217, 2) := by decide +kernel
theorem dX4_overlap_31 : decode cX4_overlap 31 = .ok (.invokespecial 219, 3) := by decide +kernel
theorem dX4_overlap_34 : decode cX4_overlap 34 = .ok (.athrow, 1) := by decide +kernel
theorem dX4_overlap_35 : decode cX4_overlap 35 = .ok (.aload_n 0, 1) := by decide +kernel
theorem dX4_overlap_36 : decode cX4_overlap 36 = .ok (.getfield 19, 3) := by decide +kernel
theorem dX4_overlap_39 : decode cX4_overlap 39 = .ok (.getfield 169, 3) := by decide +kernel
theorem dX4_overlap_42 : decode cX4_overlap 42 = .ok (.iload_n 1, 1) := by decide +kernel
theorem dX4_overlap_43 : decode cX4_overlap 43 = .ok (.aaload, 1) := by decide +kernel
theorem dX4_overlap_44 : decode cX4_overlap 44 = .ok (.aload_n 0, 1) := by decide +kernel
theorem dX4_overlap_45 : decode cX4_overlap 45 = .ok (.getfield 19, 3) := by decide +kernel
theorem dX4_overlap_48 : decode cX4_overlap 48 = .ok (.getfield 169, 3) := by decide +kernel
theorem dX4_overlap_51 : decode cX4_overlap 51 = .ok (.iload_n 2, 1) := by decide +kernel
theorem dX4_overlap_52 : decode cX4_overlap 52 = .ok (.aaload, 1) := by decide +kernel
theorem dX4_overlap_53 : decode cX4_overlap 53 = .ok (.invokevirtual 220, 3) := by decide +kernel
theorem dX4_overlap_56 : decode cX4_overlap 56 = .ok (.istore 4, 2) := by decide +kernel
theorem dX4_overlap_58 : decode cX4_overlap 58 = .ok (.iload 4, 2) := by decide +kernel
theorem dX4_overlap_60 : decode cX4_overlap 60 = .ok (.i2d, 1) := by decide +kernel
theorem dX4_overlap_61 : decode cX4_overlap 61 = .ok (.iload_n 3, 1) := by decide +kernel
theorem dX4_overlap_62 : decode cX4_overlap 62 = .ok (.i2d, 1) := by decide +kernel
theorem dX4_overlap_63 : decode cX4_overlap 63 = .ok (.ddiv, 1) := by decide +kernel
theorem dX4_overlap_64 : decode cX4_overlap 64 = .ok (.dreturn, 1) := by decide +kernel
theorem dX4_known_0 : decode cX4_known 0 = .ok (.iload_n 1, 1) := by decide +kernel
theorem dX4_known_1 : decode cX4_known 1 = .ok (.invokestatic 69, 3) := by decide +kernel
theorem dX4_known_4 : decode cX4_known 4 = .ok (.iload_n 2, 1) := by decide +kernel
theorem dX4_known_5 : decode cX4_known 5 = .ok (.invokestatic 69, 3) := by decide +kernel
theorem dX4_known_8 : decode cX4_known 8 = .ok (.iload_n 3, 1) := by decide +kernel
theorem dX4_known_9 : decode cX4_known 9 = .ok (.invokestatic 69, 3) := by decide +kernel
theorem dX4_known_12 : decode cX4_known 12 = .ok (.aload_n 0, 1) := by decide +kernel
theorem dX4_known_13 : decode cX4_known 13 = .ok (.iload_n 1, 1) := by decide +kernel
theorem dX4_known_14 : decode cX4_known 14 = .ok (.invokevirtual 122, 3) := by decide +kernel
theorem dX4_known_17 : decode cX4_known 17 = .ok (.aload_n 0, 1) := by decide +kernel
theorem dX4_known_18 : decode cX4_known 18 = .ok (.getfield 19, 3) := by decide +kernel
theorem dX4_known_21 : decode cX4_known 21 = .ok (.getfield 169, 3) := by decide +kernel
theorem dX4_known_24 : decode cX4_known 24 = .ok (.iload_n 1, 1) := by decide +kernel
theorem dX4_known_25 : decode cX4_known 25 = .ok (.aaload, 1) := by decide +kernel
theorem dX4_known_26 : decode cX4_known 26 = .ok (.iload_n 2, 1) := by decide +kernel
theorem dX4_known_27 : decode cX4_known 27 = .ok (.iload_n 3, 1) := by decide +kernel
theorem dX4_known_28 : decode cX4_known 28 = .ok (.invokevirtual 223, 3) := by decide +kernel
theorem dX4_known_31 : decode cX4_known 31 = .ok (.ireturn, 1) := by decide +kernel
theorem dX4_isStable_0 : decode cX4_isStable 0 = .ok (.iload_n 1, 1) := by decide +kernel
theorem dX4_isStable_1 : decode cX4_isStable 1 = .ok (.invokestatic 69, 3) := by decide +kernel
theorem dX4_isStable_4 : decode cX4_isStable 4 = .ok (.aload_n 0, 1) := by decide +kernel
theorem dX4_isStable_5 : decode cX4_isStable 5 = .ok (.iload_n 2, 1) := by decide +kernel
theorem dX4_isStable_6 : decode cX4_isStable 6 = .ok (.invokevirtual 112, 3) := by decide +kernel
theorem dX4_isStable_9 : decode cX4_isStable 9 = .ok (.aload_n 0, 1) := by decide +kernel
theorem dX4_isStable_10 : decode cX4_isStable 10 = .ok (.iload_n 1, 1) := by decide +kernel
theorem dX4_isStable_11 : decode cX4_isStable 11 = .ok (.invokevirtual 122, 3) := by decide +kernel
theorem dX4_isStable_14 : decode cX4_isStable 14 = .ok (.aload_n 0, 1) := by decide +kernel
theorem dX4_isStable_15 : decode cX4_isStable 15 = .ok (.iload_n 1, 1) := by decide +kernel
theorem dX4_isStable_16 : decode cX4_isStable 16 = .ok (.iload_n 2, 1) := by decide +kernel
theorem dX4_isStable_17 : decode cX4_isStable 17 = .ok (.invokevirtual 186, 3) := by decide +kernel
theorem dX4_isStable_20 : decode cX4_isStable 20 = .ok (.aload_n 0, 1) := by decide +kernel
theorem dX4_isStable_21 : decode cX4_isStable 21 = .ok (.getfield 19, 3) := by decide +kernel
theorem dX4_isStable_24 : decode cX4_isStable 24 = .ok (.iload_n 1, 1) := by decide +kernel
theorem dX4_isStable_25 : decode cX4_isStable 25 = .ok (.iload_n 2, 1) := by decide +kernel
theorem dX4_isStable_26 : decode cX4_isStable 26 = .ok (.invokevirtual 226, 3) := by decide +kernel
theorem dX4_isStable_29 : decode cX4_isStable 29 = .ok (.ireturn, 1) := by decide +kernel
theorem dX4_unstable_0 : decode cX4_unstable 0 = .ok (.iload_n 1, 1) := by decide +kernel
theorem dX4_unstable_1 : decode cX4_unstable 1 = .ok (.invokestatic 69, 3) := by decide +kernel
theorem dX4_unstable_4 : decode cX4_unstable 4 = .ok (.aload_n 0, 1) := by decide +kernel
theorem dX4_unstable_5 : decode cX4_unstable 5 = .ok (.iload_n 1, 1) := by decide +kernel
theorem dX4_unstable_6 : decode cX4_unstable 6 = .ok (.invokevirtual 122, 3) := by decide +kernel
theorem dX4_unstable_9 : decode cX4_unstable 9 = .ok (.aload_n 0, 1) := by decide +kernel
theorem dX4_unstable_10 : decode cX4_unstable 10 = .ok (.getfield 19, 3) := by decide +kernel
theorem dX4_unstable_13 : decode cX4_unstable 13 = .ok (.iload_n 1, 1) := by decide +kernel
theorem dX4_unstable_14 : decode cX4_unstable 14 = .ok (.invokevirtual 229, 3) := by decide +kernel
theorem dX4_unstable_17 : decode cX4_unstable 17 = .ok (.ireturn, 1) := by decide +kernel
theorem dX4_isEverywhere_0 : decode cX4_isEverywhere 0 = .ok (.aload_n 0, 1) := by decide +kernel
theorem dX4_isEverywhere_1 : decode cX4_isEverywhere 1 = .ok (.iload_n 1, 1) := by decide +kernel
theorem dX4_isEverywhere_2 : decode cX4_isEverywhere 2 = .ok (.invokevirtual 112, 3) := by decide +kernel
theorem dX4_isEverywhere_5 : decode cX4_isEverywhere 5 = .ok (.aload_n 0, 1) := by decide +kernel
theorem dX4_isEverywhere_6 : decode cX4_isEverywhere 6 = .ok (.getfield 19, 3) := by decide +kernel
theorem dX4_isEverywhere_9 : decode cX4_isEverywhere 9 = .ok (.iload_n 1, 1) := by decide +kernel
theorem dX4_isEverywhere_10 : decode cX4_isEverywhere 10 = .ok (.invokevirtual 232, 3) := by decide +kernel
theorem dX4_isEverywhere_13 : decode cX4_isEverywhere 13 = .ok (.ireturn, 1) := by decide +kernel
theorem dX4_firstUnaware_0 : decode cX4_firstUnaware 0 = .ok (.aload_n 0, 1) := by decide +kernel
theorem dX4_firstUnaware_1 : decode cX4_firstUnaware 1 = .ok (.iload_n 1, 1) := by decide +kernel
theorem dX4_firstUnaware_2 : decode cX4_firstUnaware 2 = .ok (.invokevirtual 112, 3) := by decide +kernel
theorem dX4_firstUnaware_5 : decode cX4_firstUnaware 5 = .ok (.aload_n 0, 1) := by decide +kernel
theorem dX4_firstUnaware_6 : decode cX4_firstUnaware 6 = .ok (.getfield 19, 3) := by decide +kernel
theorem dX4_firstUnaware_9 : decode cX4_firstUnaware 9 = .ok (.iload_n 1, 1) := by decide +kernel
theorem dX4_firstUnaware_10 : decode cX4_firstUnaware 10 = .ok (.invokevirtual 235, 3) := by decide +kernel
theorem dX4_firstUnaware_13 : decode cX4_firstUnaware 13 = .ok (.istore_n 2, 1) := by decide +kernel
theorem dX4_firstUnaware_14 : decode cX4_firstUnaware 14 = .ok (.iload_n 2, 1) := by decide +kernel
theorem dX4_firstUnaware_15 : decode cX4_firstUnaware 15 = .ok (.iconst (-1), 1) := by decide +kernel
theorem dX4_firstUnaware_16 : decode cX4_firstUnaware 16 = .ok (.if_icmp .ne 13, 3) := by decide +kernel
theorem dX4_firstUnaware_19 : decode cX4_firstUnaware 19 = .ok (.new 203, 3) := by decide +kernel
theorem dX4_firstUnaware_22 : decode cX4_firstUnaware 22 = .ok (.dup, 1) := by decide +kernel
theorem dX4_firstUnaware_23 : decode cX4_firstUnaware 23 = .ok (.ldc 238, 2) := by decide +kernel
theorem dX4_firstUnaware_25 : decode cX4_firstUnaware 25 = .ok (.invokespecial 207, 3) := by decide +kernel
theorem dX4_firstUnaware_28 : decode cX4_firstUnaware 28 = .ok (.athrow, 1) := by decide +kernel
theorem dX4_firstUnaware_29 : decode cX4_firstUnaware 29 = .ok (.iload_n 2, 1) := by decide +kernel
theorem dX4_firstUnaware_30 : decode cX4_firstUnaware 30 = .ok (.ireturn, 1) := by decide +kernel
theorem dX4_append_0 : decode cX4_append 0 = .ok (.iload_n 1, 1) := by decide +kernel
theorem dX4_append_1 : decode cX4_append 1 = .ok (.bipush 32, 2) := by decide +kernel
theorem dX4_append_3 : decode cX4_append 3 = .ok (.if_icmp .lt 9, 3) := by decide +kernel
theorem dX4_append_6 : decode cX4_append 6 = .ok (.iload_n 1, 1) := by decide +kernel
theorem dX4_append_7 : decode cX4_append 7 = .ok (.bipush 126, 2) := by decide +kernel
theorem dX4_append_9 : decode cX4_append 9 = .ok (.if_icmp .le 13, 3) := by decide +kernel
theorem dX4_append_12 : decode cX4_append 12 = .ok (.new 33, 3) := by decide +kernel
theorem dX4_append_15 : decode cX4_append 15 = .ok (.dup, 1) := by decide +kernel
theorem dX4_append_16 : decode cX4_append 16 = .ok (.ldc 240, 2) := by decide +kernel
theorem dX4_append_18 : decode cX4_append 18 = .ok (.invokespecial 37, 3) := by decide +kernel
theorem dX4_append_21 : decode cX4_append 21 = .ok (.athrow, 1) := by decide +kernel
theorem dX4_append_22 : decode cX4_append 22 = .ok (.aload_n 0, 1) := by decide +kernel
theorem dX4_append_23 : decode cX4_append 23 = .ok (.getfield 10, 3) := by decide +kernel
theorem dX4_append_26 : decode cX4_append 26 = .ok (.invokevirtual 242, 3) := by decide +kernel
theorem dX4_append_29 : decode cX4_append 29 = .ok (.ifCond .eq 13, 3) := by decide +kernel
theorem dX4_append_32 : decode cX4_append 32 = .ok (.new 76, 3) := by decide +kernel
theorem dX4_append_35 : decode cX4_append 35 = .ok (.dup, 1) := by decide +kernel
theorem dX4_append_36 : decode cX4_append 36 = .ok (.ldc 245, 2) := by decide +kernel
theorem dX4_append_38 : decode cX4_append 38 = .ok (.invokespecial 80, 3) := by decide +kernel
theorem dX4_append_41 : decode cX4_append 41 = .ok (.athrow, 1) := by decide +kernel
theorem dX4_append_42 : decode cX4_append 42 = .ok (.aload_n 0, 1) := by decide +kernel
theorem dX4_append_43 : decode cX4_append 43 = .ok (.getfield 10, 3) := by decide +kernel
theorem dX4_append_46 : decode cX4_append 46 = .ok (.iload_n 1, 1) := by decide +kernel
theorem dX4_append_47 : decode cX4_append 47 = .ok (.invokevirtual 247, 3) := by decide +kernel
theorem dX4_append_50 : decode cX4_append 50 = .ok (.ireturn, 1) := by decide +kernel
theorem dX4_run_0 : decode cX4_run 0 = .ok (.aload_n 0, 1) := by decide +kernel
theorem dX4_run_1 : decode cX4_run 1 = .ok (.getfield 10, 3) := by decide +kernel
theorem dX4_run_4 : decode cX4_run 4 = .ok (.invokevirtual 251, 3) := by decide +kernel
theorem dX4_run_7 : decode cX4_run 7 = .ok (.istore_n 1, 1) := by decide +kernel
theorem dX4_run_8 : decode cX4_run 8 = .ok (.aload_n 0, 1) := by decide +kernel
theorem dX4_run_9 : decode cX4_run 9 = .ok (.getfield 10, 3) := by decide +kernel
theorem dX4_run_12 : decode cX4_run 12 = .ok (.invokevirtual 254, 3) := by decide +kernel
theorem dX4_run_15 : decode cX4_run 15 = .ok (.iload_n 1, 1) := by decide +kernel
theorem dX4_run_16 : decode cX4_run 16 = .ok (.ifCond .ne 25, 3) := by decide +kernel
theorem dX4_run_19 : decode cX4_run 19 = .ok (.aload_n 0, 1) := by decide +kernel
theorem dX4_run_20 : decode cX4_run 20 = .ok (.aload_n 0, 1) := by decide +kernel
theorem dX4_run_21 : decode cX4_run 21 = .ok (.getfield 10, 3) := by decide +kernel
theorem dX4_run_24 : decode cX4_run 24 = .ok (.getfield 257, 3) := by decide +kernel
theorem dX4_run_27 : decode cX4_run 27 = .ok (.putfield 29, 3) := by decide +kernel
theorem dX4_run_30 : decode cX4_run 30 = .ok (.new 33, 3) := by decide +kernel
theorem dX4_run_33 : decode cX4_run 33 = .ok (.dup, 1) := by decide +kernel
theorem dX4_run_34 : decode cX4_run 34 = .ok (.ldc_w 260, 3) := by decide +kernel
theorem dX4_run_37 : decode cX4_run 37 = .ok (.invokespecial 37, 3) := by decide +kernel
theorem dX4_run_40 : decode cX4_run 40 = .ok (.athrow, 1) := by decide +kernel
theorem dX4_run_41 : decode cX4_run 41 = .ok (.aload_n 0, 1) := by decide +kernel
theorem dX4_run_42 : decode cX4_run 42 = .ok (.invokevirtual 262, 3) := by decide +kernel
theorem dX4_run_45 : decode cX4_run 45 = .ok (.astore_n 2, 1) := by decide +kernel
theorem dX4_run_46 : decode cX4_run 46 = .ok (.iconst 0, 1) := by decide +kernel
theorem dX4_run_47 : decode cX4_run 47 = .ok (.istore_n 3, 1) := by decide +kernel
theorem dX4_run_48 : decode cX4_run 48 = .ok (.iload_n 3, 1) := by decide +kernel
theorem dX4_run_49 : decode cX4_run 49 = .ok (.aload_n 0, 1) := by decide +kernel
theorem dX4_run_50 : decode cX4_run 50 = .ok (.getfield 10, 3) := by decide +kernel
theorem dX4_run_53 : decode cX4_run 53 = .ok (.getfield 266, 3) := by decide +kernel
theorem dX4_run_56 : decode cX4_run 56 = .ok (.if_icmp .ge 54, 3) := by decide +kernel
theorem dX4_run_59 : decode cX4_run 59 = .ok (.aload_n 2, 1) := by decide +kernel
theorem dX4_run_60 : decode cX4_run 60 = .ok (.aload_n 0, 1) := by decide +kernel
theorem dX4_run_61 : decode cX4_run 61 = .ok (.getfield 10, 3) := by decide +kernel
theorem dX4_run_64 : decode cX4_run 64 = .ok (.getfield 269, 3) := by decide +kernel
theorem dX4_run_67 : decode cX4_run 67 = .ok (.iload_n 3, 1) := by decide +kernel
theorem dX4_run_68 : decode cX4_run 68 = .ok (.caload, 1) := by decide +kernel
theorem dX4_run_69 : decode cX4_run 69 = .ok (.aload_n 0, 1) := by decide +kernel
theorem dX4_run_70 : decode cX4_run 70 = .ok (.getfield 10, 3) := by decide +kernel
theorem dX4_run_73 : decode cX4_run 73 = .ok (.getfield 273, 3) := by decide +kernel
theorem dX4_run_76 : decode cX4_run 76 = .ok (.iload_n 3, 1) := by decide +kernel
theorem dX4_run_77 : decode cX4_run 77 = .ok (.iaload, 1) := by decide +kernel
theorem dX4_run_78 : decode cX4_run 78 = .ok (.aload_n 0, 1) := by decide +kernel
theorem dX4_run_79 : decode cX4_run 79 = .ok (.getfield 10, 3) := by decide +kernel
theorem dX4_run_82 : decode cX4_run 82 = .ok (.getfield 276, 3) := by decide +kernel
theorem dX4_run_85 : decode cX4_run 85 = .ok (.iload_n 3, 1) := by decide +kernel
theorem dX4_run_86 : decode cX4_run 86 = .ok (.iaload, 1) := by decide +kernel
theorem dX4_run_87 : decode cX4_run 87 = .ok (.invokevirtual 279, 3) := by decide +kernel
theorem dX4_run_90 : decode cX4_run 90 = .ok (.ifCond .ne 14, 3) := by decide +kernel
theorem dX4_run_93 : decode cX4_run 93 = .ok (.new 76, 3) := by decide +kernel
theorem dX4_run_96 : decode cX4_run 96 = .ok (.dup, 1) := by decide +kernel
theorem dX4_run_97 : decode cX4_run 97 = .ok (.ldc_w 283, 3) := by decide +kernel
theorem dX4_run_100 : decode cX4_run 100 = .ok (.invokespecial 80, 3) := by decide +kernel
theorem dX4_run_103 : decode cX4_run 103 = .ok (.athrow, 1) := by decide +kernel
theorem dX4_run_104 : decode cX4_run 104 = .ok (.iinc 3 1, 3) := by decide +kernel
theorem dX4_run_107 : decode cX4_run 107 = .ok (.goto (-59), 3) := by decide +kernel
theorem dX4_run_110 : decode cX4_run 110 = .ok (.aload_n 0, 1) := by decide +kernel
theorem dX4_run_111 : decode cX4_run 111 = .ok (.aload_n 0, 1) := by decide +kernel
theorem dX4_run_112 : decode cX4_run 112 = .ok (.getfield 19, 3) := by decide +kernel
theorem dX4_run_115 : decode cX4_run 115 = .ok (.putfield 23, 3) := by decide +kernel
theorem dX4_run_118 : decode cX4_run 118 = .ok (.aload_n 0, 1) := by decide +kernel
theorem dX4_run_119 : decode cX4_run 119 = .ok (.aload_n 2, 1) := by decide +kernel
theorem dX4_run_120 : decode cX4_run 120 = .ok (.putfield 19, 3) := by decide +kernel
theorem dX4_run_123 : decode cX4_run 123 = .ok (.aload_n 0, 1) := by decide +kernel
theorem dX4_run_124 : decode cX4_run 124 = .ok (.getfield 10, 3) := by decide +kernel
theorem dX4_run_127 : decode cX4_run 127 = .ok (.getfield 266, 3) := by decide +kernel
theorem dX4_run_130 : decode cX4_run 130 = .ok (.ireturn, 1) := by decide +kernel
theorem dX4_errorPosition_0 : decode cX4_errorPosition 0 = .ok (.aload_n 0, 1) := by decide +kernel
theorem dX4_errorPosition_1 : decode cX4_errorPosition 1 = .ok (.getfield 29, 3) := by decide +kernel
theorem dX4_errorPosition_4 : decode cX4_errorPosition 4 = .ok (.iconst (-1), 1) := by decide +kernel
theorem dX4_errorPosition_5 : decode cX4_errorPosition 5 = .ok (.if_icmp .ne 14, 3) := by decide +kernel
theorem dX4_errorPosition_8 : decode cX4_errorPosition 8 = .ok (.new 203, 3) := by decide +kernel
theorem dX4_errorPosition_11 : decode cX4_errorPosition 11 = .ok (.dup, 1) := by decide +kernel
theorem dX4_errorPosition_12 : decode cX4_errorPosition 12 = .ok (.ldc_w 285, 3) := by decide +kernel
theorem dX4_errorPosition_15 : decode cX4_errorPosition 15 = .ok (.invokespecial 207, 3) := by decide +kernel
theorem dX4_errorPosition_18 : decode cX4_errorPosition 18 = .ok (.athrow, 1) := by decide +kernel
theorem dX4_errorPosition_19 : decode cX4_errorPosition 19 = .ok (.aload_n 0, 1) := by decide +kernel
theorem dX4_errorPosition_20 : decode cX4_errorPosition 20 = .ok (.getfield 29, 3) := by decide +kernel
theorem dX4_errorPosition_23 : decode cX4_errorPosition 23 = .ok (.ireturn, 1) := by decide +kernel
theorem dX4_saveSnapshot_0 : decode cX4_saveSnapshot 0 = .ok (.aload_n 0, 1) := by decide +kernel
theorem dX4_saveSnapshot_1 : decode cX4_saveSnapshot 1 = .ok (.getfield 26, 3) := by decide +kernel
theorem dX4_saveSnapshot_4 : decode cX4_saveSnapshot 4 = .ok (.ifnonnull 14, 3) := by decide +kernel
theorem dX4_saveSnapshot_7 : decode cX4_saveSnapshot 7 = .ok (.aload_n 0, 1) := by decide +kernel
theorem dX4_saveSnapshot_8 : decode cX4_saveSnapshot 8 = .ok (.new 16, 3) := by decide +kernel
theorem dX4_saveSnapshot_11 : decode cX4_saveSnapshot 11 = .ok (.dup, 1) := by decide +kernel
theorem dX4_saveSnapshot_12 : decode cX4_saveSnapshot 12 = .ok (.invokespecial 18, 3) := by decide +kernel
theorem dX4_saveSnapshot_15 : decode cX4_saveSnapshot 15 = .ok (.putfield 26, 3) := by decide +kernel
theorem dX4_saveSnapshot_18 : decode cX4_saveSnapshot 18 = .ok (.aload_n 0, 1) := by decide +kernel
theorem dX4_saveSnapshot_19 : decode cX4_saveSnapshot 19 = .ok (.getfield 26, 3) := by decide +kernel
theorem dX4_saveSnapshot_22 : decode cX4_saveSnapshot 22 = .ok (.aload_n 0, 1) := by decide +kernel
theorem dX4_saveSnapshot_23 : decode cX4_saveSnapshot 23 = .ok (.getfield 19, 3) := by decide +kernel
theorem dX4_saveSnapshot_26 : decode cX4_saveSnapshot 26 = .ok (.invokevirtual 287, 3) := by decide +kernel
theorem dX4_saveSnapshot_29 : decode cX4_saveSnapshot 29 = .ok (.aload_n 0, 1) := by decide +kernel
theorem dX4_saveSnapshot_30 : decode cX4_saveSnapshot 30 = .ok (.getfield 19, 3) := by decide +kernel
theorem dX4_saveSnapshot_33 : decode cX4_saveSnapshot 33 = .ok (.getfield 40, 3) := by decide +kernel
theorem dX4_saveSnapshot_36 : decode cX4_saveSnapshot 36 = .ok (.getfield 44, 3) := by decide +kernel
theorem dX4_saveSnapshot_39 : decode cX4_saveSnapshot 39 = .ok (.ireturn, 1) := by decide +kernel
theorem dX4_restoreSnapshot_0 : decode cX4_restoreSnapshot 0 = .ok (.aload_n 0, 1) := by decide +kernel
theorem dX4_restoreSnapshot_1 : decode cX4_restoreSnapshot 1 = .ok (.getfield 26, 3) := by decide +kernel
theorem dX4_restoreSnapshot_4 : decode cX4_restoreSnapshot 4 = .ok (.ifnonnull 14, 3) := by decide +kernel
theorem dX4_restoreSnapshot_7 : decode cX4_restoreSnapshot 7 = .ok (.new 76, 3) := by decide +kernel
theorem dX4_restoreSnapshot_10 : decode cX4_restoreSnapshot 10 = .ok (.dup, 1) := by decide +kernel
theorem dX4_restoreSnapshot_11 : decode cX4_restoreSnapshot 11 = .ok (.ldc_w 291, 3) := by decide +kernel
theorem dX4_restoreSnapshot_14 : decode cX4_restoreSnapshot 14 = .ok (.invokespecial 80, 3) := by decide +kernel
theorem dX4_restoreSnapshot_17 : decode cX4_restoreSnapshot 17 = .ok (.athrow, 1) := by decide +kernel
theorem dX4_restoreSnapshot_18 : decode cX4_restoreSnapshot 18 = .ok (.aload_n 0, 1) := by decide +kernel
theorem dX4_restoreSnapshot_19 : decode cX4_restoreSnapshot 19 = .ok (.getfield 19, 3) := by decide +kernel
theorem dX4_restoreSnapshot_22 : decode cX4_restoreSnapshot 22 = .ok (.aload_n 0, 1) := by decide +kernel
theorem dX4_restoreSnapshot_23 : decode cX4_restoreSnapshot 23 = .ok (.getfield 26, 3) := by decide +kernel
theorem dX4_restoreSnapshot_26 : decode cX4_restoreSnapshot 26 = .ok (.invokevirtual 287, 3) := by decide +kernel
theorem dX4_restoreSnapshot_29 : decode cX4_restoreSnapshot 29 = .ok (.aload_n 0, 1) := by decide +kernel
theorem dX4_restoreSnapshot_30 : decode cX4_restoreSnapshot 30 = .ok (.getfield 19, 3) := by decide +kernel
theorem dX4_restoreSnapshot_33 : decode cX4_restoreSnapshot 33 = .ok (.getfield 40, 3) := by decide +kernel
theorem dX4_restoreSnapshot_36 : decode cX4_restoreSnapshot 36 = .ok (.getfield 44, 3) := by decide +kernel
theorem dX4_restoreSnapshot_39 : decode cX4_restoreSnapshot 39 = .ok (.ireturn, 1) := by decide +kernel
theorem dX4_requireProcess_0 : decode cX4_requireProcess 0 = .ok (.iload_n 0, 1) := by decide +kernel
theorem dX4_requireProcess_1 : decode cX4_requireProcess 1 = .ok (.invokestatic 293, 3) := by decide +kernel
theorem dX4_requireProcess_4 : decode cX4_requireProcess 4 = .ok (.ifCond .ne 14, 3) := by decide +kernel
theorem dX4_requireProcess_7 : decode cX4_requireProcess 7 = .ok (.new 178, 3) := by decide +kernel
theorem dX4_requireProcess_10 : decode cX4_requireProcess 10 = .ok (.dup, 1) := by decide +kernel
theorem dX4_requireProcess_11 : decode cX4_requireProcess 11 = .ok (.ldc_w 296, 3) := by decide +kernel
theorem dX4_requireProcess_14 : decode cX4_requireProcess 14 = .ok (.invokespecial 182, 3) := by decide +kernel
theorem dX4_requireProcess_17 : decode cX4_requireProcess 17 = .ok (.athrow, 1) := by decide +kernel
theorem dX4_requireProcess_18 : decode cX4_requireProcess 18 = .ok (.return_, 1) := by decide +kernel
theorem dX4_requireMessage_0 : decode cX4_requireMessage 0 = .ok (.aload_n 0, 1) := by decide +kernel
theorem dX4_requireMessage_1 : decode cX4_requireMessage 1 = .ok (.getfield 19, 3) := by decide +kernel
theorem dX4_requireMessage_4 : decode cX4_requireMessage 4 = .ok (.getfield 40, 3) := by decide +kernel
theorem dX4_requireMessage_7 : decode cX4_requireMessage 7 = .ok (.iload_n 1, 1) := by decide +kernel
theorem dX4_requireMessage_8 : decode cX4_requireMessage 8 = .ok (.invokevirtual 298, 3) := by decide +kernel
theorem dX4_requireMessage_11 : decode cX4_requireMessage 11 = .ok (.ifCond .ne 14, 3) := by decide +kernel
theorem dX4_requireMessage_14 : decode cX4_requireMessage 14 = .ok (.new 178, 3) := by decide +kernel
theorem dX4_requireMessage_17 : decode cX4_requireMessage 17 = .ok (.dup, 1) := by decide +kernel
theorem dX4_requireMessage_18 : decode cX4_requireMessage 18 = .ok (.ldc_w 301, 3) := by decide +kernel
theorem dX4_requireMessage_21 : decode cX4_requireMessage 21 = .ok (.invokespecial 182, 3) := by decide +kernel
theorem dX4_requireMessage_24 : decode cX4_requireMessage 24 = .ok (.athrow, 1) := by decide +kernel
theorem dX4_requireMessage_25 : decode cX4_requireMessage 25 = .ok (.return_, 1) := by decide +kernel
theorem dX4_requireView_0 : decode cX4_requireView 0 = .ok (.iload_n 1, 1) := by decide +kernel
theorem dX4_requireView_1 : decode cX4_requireView 1 = .ok (.ifCond .lt 14, 3) := by decide +kernel
theorem dX4_requireView_4 : decode cX4_requireView 4 = .ok (.iload_n 1, 1) := by decide +kernel
theorem dX4_requireView_5 : decode cX4_requireView 5 = .ok (.aload_n 0, 1) := by decide +kernel
theorem dX4_requireView_6 : decode cX4_requireView 6 = .ok (.getfield 19, 3) := by decide +kernel
theorem dX4_requireView_9 : decode cX4_requireView 9 = .ok (.getfield 53, 3) := by decide +kernel
theorem dX4_requireView_12 : decode cX4_requireView 12 = .ok (.if_icmp .le 14, 3) := by decide +kernel
theorem dX4_requireView_15 : decode cX4_requireView 15 = .ok (.new 178, 3) := by decide +kernel
theorem dX4_requireView_18 : decode cX4_requireView 18 = .ok (.dup, 1) := by decide +kernel
theorem dX4_requireView_19 : decode cX4_requireView 19 = .ok (.ldc_w 303, 3) := by decide +kernel
theorem dX4_requireView_22 : decode cX4_requireView 22 = .ok (.invokespecial 182, 3) := by decide +kernel
theorem dX4_requireView_25 : decode cX4_requireView 25 = .ok (.athrow, 1) := by decide +kernel
theorem dX4_requireView_26 : decode cX4_requireView 26 = .ok (.return_, 1) := by decide +kernel
theorem dX4_requireMember_0 : decode cX4_requireMember 0 = .ok (.aload_n 0, 1) := by decide +kernel
theorem dX4_requireMember_1 : decode cX4_requireMember 1 = .ok (.getfield 19, 3) := by decide +kernel
theorem dX4_requireMember_4 : decode cX4_requireMember 4 = .ok (.iload_n 1, 1) := by decide +kernel
theorem dX4_requireMember_5 : decode cX4_requireMember 5 = .ok (.invokevirtual 305, 3) := by decide +kernel
theorem dX4_requireMember_8 : decode cX4_requireMember 8 = .ok (.ifCond .ne 14, 3) := by decide +kernel
theorem dX4_requireMember_11 : decode cX4_requireMember 11 = .ok (.new 76, 3) := by decide +kernel
theorem dX4_requireMember_14 : decode cX4_requireMember 14 = .ok (.dup, 1) := by decide +kernel
theorem dX4_requireMember_15 : decode cX4_requireMember 15 = .ok (.ldc_w 308, 3) := by decide +kernel
theorem dX4_requireMember_18 : decode cX4_requireMember 18 = .ok (.invokespecial 80, 3) := by decide +kernel
theorem dX4_requireMember_21 : decode cX4_requireMember 21 = .ok (.athrow, 1) := by decide +kernel
theorem dX4_requireMember_22 : decode cX4_requireMember 22 = .ok (.return_, 1) := by decide +kernel
theorem dX4_requireReach_0 : decode cX4_requireReach 0 = .ok (.aload_n 0, 1) := by decide +kernel
theorem dX4_requireReach_1 : decode cX4_requireReach 1 = .ok (.getfield 19, 3) := by decide +kernel
theorem dX4_requireReach_4 : decode cX4_requireReach 4 = .ok (.iload_n 1, 1) := by decide +kernel
theorem dX4_requireReach_5 : decode cX4_requireReach 5 = .ok (.iload_n 2, 1) := by decide +kernel
theorem dX4_requireReach_6 : decode cX4_requireReach 6 = .ok (.invokevirtual 310, 3) := by decide +kernel
theorem dX4_requireReach_9 : decode cX4_requireReach 9 = .ok (.ifCond .ne 14, 3) := by decide +kernel
theorem dX4_requireReach_12 : decode cX4_requireReach 12 = .ok (.new 76, 3) := by decide +kernel
theorem dX4_requireReach_15 : decode cX4_requireReach 15 = .ok (.dup, 1) := by decide +kernel
theorem dX4_requireReach_16 : decode cX4_requireReach 16 = .ok (.ldc_w 313, 3) := by decide +kernel
theorem dX4_requireReach_19 : decode cX4_requireReach 19 = .ok (.invokespecial 80, 3) := by decide +kernel
theorem dX4_requireReach_22 : decode cX4_requireReach 22 = .ok (.athrow, 1) := by decide +kernel
theorem dX4_requireReach_23 : decode cX4_requireReach 23 = .ok (.return_, 1) := by decide +kernel
theorem dX4_requireLogged_0 : decode cX4_requireLogged 0 = .ok (.aload_n 0, 1) := by decide +kernel
theorem dX4_requireLogged_1 : decode cX4_requireLogged 1 = .ok (.getfield 19, 3) := by decide +kernel
theorem dX4_requireLogged_4 : decode cX4_requireLogged 4 = .ok (.getfield 169, 3) := by decide +kernel
theorem dX4_requireLogged_7 : decode cX4_requireLogged 7 = .ok (.iload_n 1, 1) := by decide +kernel
theorem dX4_requireLogged_8 : decode cX4_requireLogged 8 = .ok (.aaload, 1) := by decide +kernel
theorem dX4_requireLogged_9 : decode cX4_requireLogged 9 = .ok (.iload_n 2, 1) := by decide +kernel
theorem dX4_requireLogged_10 : decode cX4_requireLogged 10 = .ok (.invokevirtual 315, 3) := by decide +kernel
theorem dX4_requireLogged_13 : decode cX4_requireLogged 13 = .ok (.ifCond .ne 14, 3) := by decide +kernel
theorem dX4_requireLogged_16 : decode cX4_requireLogged 16 = .ok (.new 203, 3) := by decide +kernel
theorem dX4_requireLogged_19 : decode cX4_requireLogged 19 = .ok (.dup, 1) := by decide +kernel
theorem dX4_requireLogged_20 : decode cX4_requireLogged 20 = .ok (.ldc_w 318, 3) := by decide +kernel
theorem dX4_requireLogged_23 : decode cX4_requireLogged 23 = .ok (.invokespecial 207, 3) := by decide +kernel
theorem dX4_requireLogged_26 : decode cX4_requireLogged 26 = .ok (.athrow, 1) := by decide +kernel
theorem dX4_requireLogged_27 : decode cX4_requireLogged 27 = .ok (.return_, 1) := by decide +kernel
theorem dX4_copyToTrial_0 : decode cX4_copyToTrial 0 = .ok (.aload_n 0, 1) := by decide +kernel
theorem dX4_copyToTrial_1 : decode cX4_copyToTrial 1 = .ok (.getfield 23, 3) := by decide +kernel
theorem dX4_copyToTrial_4 : decode cX4_copyToTrial 4 = .ok (.ifnonnull 14, 3) := by decide +kernel
theorem dX4_copyToTrial_7 : decode cX4_copyToTrial 7 = .ok (.aload_n 0, 1) := by decide +kernel
theorem dX4_copyToTrial_8 : decode cX4_copyToTrial 8 = .ok (.new 16, 3) := by decide +kernel
theorem dX4_copyToTrial_11 : decode cX4_copyToTrial 11 = .ok (.dup, 1) := by decide +kernel
theorem dX4_copyToTrial_12 : decode cX4_copyToTrial 12 = .ok (.invokespecial 18, 3) := by decide +kernel
theorem dX4_copyToTrial_15 : decode cX4_copyToTrial 15 = .ok (.putfield 23, 3) := by decide +kernel
theorem dX4_copyToTrial_18 : decode cX4_copyToTrial 18 = .ok (.aload_n 0, 1) := by decide +kernel
theorem dX4_copyToTrial_19 : decode cX4_copyToTrial 19 = .ok (.getfield 23, 3) := by decide +kernel
theorem dX4_copyToTrial_22 : decode cX4_copyToTrial 22 = .ok (.aload_n 0, 1) := by decide +kernel
theorem dX4_copyToTrial_23 : decode cX4_copyToTrial 23 = .ok (.getfield 19, 3) := by decide +kernel
theorem dX4_copyToTrial_26 : decode cX4_copyToTrial 26 = .ok (.invokevirtual 287, 3) := by decide +kernel
theorem dX4_copyToTrial_29 : decode cX4_copyToTrial 29 = .ok (.aload_n 0, 1) := by decide +kernel
theorem dX4_copyToTrial_30 : decode cX4_copyToTrial 30 = .ok (.getfield 23, 3) := by decide +kernel
theorem dX4_copyToTrial_33 : decode cX4_copyToTrial 33 = .ok (.areturn, 1) := by decide +kernel
theorem dX4_isProcess_0 : decode cX4_isProcess 0 = .ok (.iload_n 0, 1) := by decide +kernel
theorem dX4_isProcess_1 : decode cX4_isProcess 1 = .ok (.ifCond .lt 13, 3) := by decide +kernel
theorem dX4_isProcess_4 : decode cX4_isProcess 4 = .ok (.iload_n 0, 1) := by decide +kernel
theorem dX4_isProcess_5 : decode cX4_isProcess 5 = .ok (.bipush 6, 2) := by decide +kernel
theorem dX4_isProcess_7 : decode cX4_isProcess 7 = .ok (.if_icmp .ge 7, 3) := by decide +kernel
theorem dX4_isProcess_10 : decode cX4_isProcess 10 = .ok (.iconst 1, 1) := by decide +kernel
theorem dX4_isProcess_11 : decode cX4_isProcess 11 = .ok (.goto 4, 3) := by decide +kernel
theorem dX4_isProcess_14 : decode cX4_isProcess 14 = .ok (.iconst 0, 1) := by decide +kernel
theorem dX4_isProcess_15 : decode cX4_isProcess 15 = .ok (.ireturn, 1) := by decide +kernel
theorem dX4_contains_0 : decode cX4_contains 0 = .ok (.iload_n 0, 1) := by decide +kernel
theorem dX4_contains_1 : decode cX4_contains 1 = .ok (.iload_n 1, 1) := by decide +kernel
theorem dX4_contains_2 : decode cX4_contains 2 = .ok (.ishr, 1) := by decide +kernel
theorem dX4_contains_3 : decode cX4_contains 3 = .ok (.iconst 1, 1) := by decide +kernel
theorem dX4_contains_4 : decode cX4_contains 4 = .ok (.iand, 1) := by decide +kernel
theorem dX4_contains_5 : decode cX4_contains 5 = .ok (.iconst 1, 1) := by decide +kernel
theorem dX4_contains_6 : decode cX4_contains 6 = .ok (.if_icmp .ne 7, 3) := by decide +kernel
theorem dX4_contains_9 : decode cX4_contains 9 = .ok (.iconst 1, 1) := by decide +kernel
theorem dX4_contains_10 : decode cX4_contains 10 = .ok (.goto 4, 3) := by decide +kernel
theorem dX4_contains_13 : decode cX4_contains 13 = .ok (.iconst 0, 1) := by decide +kernel
theorem dX4_contains_14 : decode cX4_contains 14 = .ok (.ireturn, 1) := by decide +kernel
theorem dX4_lowestOf_0 : decode cX4_lowestOf 0 = .ok (.iconst 0, 1) := by decide +kernel
theorem dX4_lowestOf_1 : decode cX4_lowestOf 1 = .ok (.istore_n 1, 1) := by decide +kernel
theorem dX4_lowestOf_2 : decode cX4_lowestOf 2 = .ok (.iload_n 1, 1) := by decide +kernel
theorem dX4_lowestOf_3 : decode cX4_lowestOf 3 = .ok (.iconst 5, 1) := by decide +kernel
theorem dX4_lowestOf_4 : decode cX4_lowestOf 4 = .ok (.if_icmp .ge 17, 3) := by decide +kernel
theorem dX4_lowestOf_7 : decode cX4_lowestOf 7 = .ok (.iload_n 0, 1) := by decide +kernel
theorem dX4_lowestOf_8 : decode cX4_lowestOf 8 = .ok (.iload_n 1, 1) := by decide +kernel
theorem dX4_lowestOf_9 : decode cX4_lowestOf 9 = .ok (.invokestatic 320, 3) := by decide +kernel
theorem dX4_lowestOf_12 : decode cX4_lowestOf 12 = .ok (.ifCond .ne 9, 3) := by decide +kernel
theorem dX4_lowestOf_15 : decode cX4_lowestOf 15 = .ok (.iinc 1 1, 3) := by decide +kernel
theorem dX4_lowestOf_18 : decode cX4_lowestOf 18 = .ok (.goto (-16), 3) := by decide +kernel
theorem dX4_lowestOf_21 : decode cX4_lowestOf 21 = .ok (.iload_n 1, 1) := by decide +kernel
theorem dX4_lowestOf_22 : decode cX4_lowestOf 22 = .ok (.ireturn, 1) := by decide +kernel
theorem dX4_copyRow_0 : decode cX4_copyRow 0 = .ok (.aload_n 0, 1) := by decide +kernel
theorem dX4_copyRow_1 : decode cX4_copyRow 1 = .ok (.iconst 0, 1) := by decide +kernel
theorem dX4_copyRow_2 : decode cX4_copyRow 2 = .ok (.aload_n 1, 1) := by decide +kernel
theorem dX4_copyRow_3 : decode cX4_copyRow 3 = .ok (.iconst 0, 1) := by decide +kernel
theorem dX4_copyRow_4 : decode cX4_copyRow 4 = .ok (.aload_n 0, 1) := by decide +kernel
theorem dX4_copyRow_5 : decode cX4_copyRow 5 = .ok (.arraylength, 1) := by decide +kernel
theorem dX4_copyRow_6 : decode cX4_copyRow 6 = .ok (.aload_n 1, 1) := by decide +kernel
theorem dX4_copyRow_7 : decode cX4_copyRow 7 = .ok (.arraylength, 1) := by decide +kernel
theorem dX4_copyRow_8 : decode cX4_copyRow 8 = .ok (.invokestatic 323, 3) := by decide +kernel
theorem dX4_copyRow_11 : decode cX4_copyRow 11 = .ok (.invokestatic 328, 3) := by decide +kernel
theorem dX4_copyRow_14 : decode cX4_copyRow 14 = .ok (.return_, 1) := by decide +kernel
