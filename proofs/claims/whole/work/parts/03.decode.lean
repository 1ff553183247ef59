theorem dX5_set_45 : decode cX5_set 45 = .ok (.iload_n 1, 1) := by decide +kernel
theorem dX5_set_46 : decode cX5_set 46 = .ok (.iadd, 1) := by decide +kernel
theorem dX5_set_47 : decode cX5_set 47 = .ok (.iaload, 1) := by decide +kernel
theorem dX5_set_48 : decode cX5_set 48 = .ok (.istore_n 3, 1) := by decide +kernel
theorem dX5_set_49 : decode cX5_set 49 = .ok (.aload_n 0, 1) := by decide +kernel
theorem dX5_set_50 : decode cX5_set 50 = .ok (.getfield 7, 3) := by decide +kernel
theorem dX5_set_53 : decode cX5_set 53 = .ok (.bipush 6, 2) := by decide +kernel
theorem dX5_set_55 : decode cX5_set 55 = .ok (.iload_n 1, 1) := by decide +kernel
theorem dX5_set_56 : decode cX5_set 56 = .ok (.iadd, 1) := by decide +kernel
theorem dX5_set_57 : decode cX5_set 57 = .ok (.iload_n 2, 1) := by decide +kernel
theorem dX5_set_58 : decode cX5_set 58 = .ok (.iastore, 1) := by decide +kernel
theorem dX5_set_59 : decode cX5_set 59 = .ok (.iload_n 3, 1) := by decide +kernel
theorem dX5_set_60 : decode cX5_set 60 = .ok (.ireturn, 1) := by decide +kernel
theorem dX5_job_0 : decode cX5_job 0 = .ok (.iload_n 1, 1) := by decide +kernel
theorem dX5_job_1 : decode cX5_job 1 = .ok (.invokestatic 47, 3) := by decide +kernel
theorem dX5_job_4 : decode cX5_job 4 = .ok (.ifCond .ne 5, 3) := by decide +kernel
theorem dX5_job_7 : decode cX5_job 7 = .ok (.iconst (-1), 1) := by decide +kernel
theorem dX5_job_8 : decode cX5_job 8 = .ok (.ireturn, 1) := by decide +kernel
theorem dX5_job_9 : decode cX5_job 9 = .ok (.iload_n 2, 1) := by decide +kernel
theorem dX5_job_10 : decode cX5_job 10 = .ok (.iconst 1, 1) := by decide +kernel
theorem dX5_job_11 : decode cX5_job 11 = .ok (.bipush 9, 2) := by decide +kernel
theorem dX5_job_13 : decode cX5_job 13 = .ok (.invokestatic 39, 3) := by decide +kernel
theorem dX5_job_16 : decode cX5_job 16 = .ok (.ifCond .eq 13, 3) := by decide +kernel
theorem dX5_job_19 : decode cX5_job 19 = .ok (.iload_n 3, 1) := by decide +kernel
theorem dX5_job_20 : decode cX5_job 20 = .ok (.iconst 0, 1) := by decide +kernel
theorem dX5_job_21 : decode cX5_job 21 = .ok (.bipush 99, 2) := by decide +kernel
theorem dX5_job_23 : decode cX5_job 23 = .ok (.invokestatic 39, 3) := by decide +kernel
theorem dX5_job_26 : decode cX5_job 26 = .ok (.ifCond .ne 6, 3) := by decide +kernel
theorem dX5_job_29 : decode cX5_job 29 = .ok (.bipush (-2), 2) := by decide +kernel
theorem dX5_job_31 : decode cX5_job 31 = .ok (.ireturn, 1) := by decide +kernel
theorem dX5_job_32 : decode cX5_job 32 = .ok (.aload_n 0, 1) := by decide +kernel
theorem dX5_job_33 : decode cX5_job 33 = .ok (.invokevirtual 43, 3) := by decide +kernel
theorem dX5_job_36 : decode cX5_job 36 = .ok (.istore 4, 2) := by decide +kernel
theorem dX5_job_38 : decode cX5_job 38 = .ok (.iload 4, 2) := by decide +kernel
theorem dX5_job_40 : decode cX5_job 40 = .ok (.bipush 7, 2) := by decide +kernel
theorem dX5_job_42 : decode cX5_job 42 = .ok (.if_icmp .ne 6, 3) := by decide +kernel
theorem dX5_job_45 : decode cX5_job 45 = .ok (.bipush (-4), 2) := by decide +kernel
theorem dX5_job_47 : decode cX5_job 47 = .ok (.ireturn, 1) := by decide +kernel
theorem dX5_job_48 : decode cX5_job 48 = .ok (.aload_n 0, 1) := by decide +kernel
theorem dX5_job_49 : decode cX5_job 49 = .ok (.getfield 7, 3) := by decide +kernel
theorem dX5_job_52 : decode cX5_job 52 = .ok (.bipush 10, 2) := by decide +kernel
theorem dX5_job_54 : decode cX5_job 54 = .ok (.iload 4, 2) := by decide +kernel
theorem dX5_job_56 : decode cX5_job 56 = .ok (.iadd, 1) := by decide +kernel
theorem dX5_job_57 : decode cX5_job 57 = .ok (.iload_n 1, 1) := by decide +kernel
theorem dX5_job_58 : decode cX5_job 58 = .ok (.iastore, 1) := by decide +kernel
theorem dX5_job_59 : decode cX5_job 59 = .ok (.aload_n 0, 1) := by decide +kernel
theorem dX5_job_60 : decode cX5_job 60 = .ok (.getfield 7, 3) := by decide +kernel
theorem dX5_job_63 : decode cX5_job 63 = .ok (.bipush 17, 2) := by decide +kernel
theorem dX5_job_65 : decode cX5_job 65 = .ok (.iload 4, 2) := by decide +kernel
theorem dX5_job_67 : decode cX5_job 67 = .ok (.iadd, 1) := by decide +kernel
theorem dX5_job_68 : decode cX5_job 68 = .ok (.iload_n 2, 1) := by decide +kernel
theorem dX5_job_69 : decode cX5_job 69 = .ok (.iastore, 1) := by decide +kernel
theorem dX5_job_70 : decode cX5_job 70 = .ok (.aload_n 0, 1) := by decide +kernel
theorem dX5_job_71 : decode cX5_job 71 = .ok (.getfield 7, 3) := by decide +kernel
theorem dX5_job_74 : decode cX5_job 74 = .ok (.bipush 24, 2) := by decide +kernel
theorem dX5_job_76 : decode cX5_job 76 = .ok (.iload 4, 2) := by decide +kernel
theorem dX5_job_78 : decode cX5_job 78 = .ok (.iadd, 1) := by decide +kernel
theorem dX5_job_79 : decode cX5_job 79 = .ok (.iload_n 3, 1) := by decide +kernel
theorem dX5_job_80 : decode cX5_job 80 = .ok (.iastore, 1) := by decide +kernel
theorem dX5_job_81 : decode cX5_job 81 = .ok (.aload_n 0, 1) := by decide +kernel
theorem dX5_job_82 : decode cX5_job 82 = .ok (.getfield 7, 3) := by decide +kernel
theorem dX5_job_85 : decode cX5_job 85 = .ok (.bipush 9, 2) := by decide +kernel
theorem dX5_job_87 : decode cX5_job 87 = .ok (.dup2, 1) := by decide +kernel
theorem dX5_job_88 : decode cX5_job 88 = .ok (.iaload, 1) := by decide +kernel
theorem dX5_job_89 : decode cX5_job 89 = .ok (.iconst 1, 1) := by decide +kernel
theorem dX5_job_90 : decode cX5_job 90 = .ok (.iadd, 1) := by decide +kernel
theorem dX5_job_91 : decode cX5_job 91 = .ok (.iastore, 1) := by decide +kernel
theorem dX5_job_92 : decode cX5_job 92 = .ok (.iload 4, 2) := by decide +kernel
theorem dX5_job_94 : decode cX5_job 94 = .ok (.ireturn, 1) := by decide +kernel
theorem dX5_drop_0 : decode cX5_drop 0 = .ok (.aload_n 0, 1) := by decide +kernel
theorem dX5_drop_1 : decode cX5_drop 1 = .ok (.iload_n 1, 1) := by decide +kernel
theorem dX5_drop_2 : decode cX5_drop 2 = .ok (.invokevirtual 51, 3) := by decide +kernel
theorem dX5_drop_5 : decode cX5_drop 5 = .ok (.ifCond .ne 5, 3) := by decide +kernel
theorem dX5_drop_8 : decode cX5_drop 8 = .ok (.iconst (-1), 1) := by decide +kernel
theorem dX5_drop_9 : decode cX5_drop 9 = .ok (.ireturn, 1) := by decide +kernel
theorem dX5_drop_10 : decode cX5_drop 10 = .ok (.iload_n 1, 1) := by decide +kernel
theorem dX5_drop_11 : decode cX5_drop 11 = .ok (.istore_n 2, 1) := by decide +kernel
theorem dX5_drop_12 : decode cX5_drop 12 = .ok (.iload_n 2, 1) := by decide +kernel
theorem dX5_drop_13 : decode cX5_drop 13 = .ok (.iconst 1, 1) := by decide +kernel
theorem dX5_drop_14 : decode cX5_drop 14 = .ok (.iadd, 1) := by decide +kernel
theorem dX5_drop_15 : decode cX5_drop 15 = .ok (.aload_n 0, 1) := by decide +kernel
theorem dX5_drop_16 : decode cX5_drop 16 = .ok (.invokevirtual 43, 3) := by decide +kernel
theorem dX5_drop_19 : decode cX5_drop 19 = .ok (.if_icmp .ge 69, 3) := by decide +kernel
theorem dX5_drop_22 : decode cX5_drop 22 = .ok (.aload_n 0, 1) := by decide +kernel
theorem dX5_drop_23 : decode cX5_drop 23 = .ok (.getfield 7, 3) := by decide +kernel
theorem dX5_drop_26 : decode cX5_drop 26 = .ok (.bipush 10, 2) := by decide +kernel
theorem dX5_drop_28 : decode cX5_drop 28 = .ok (.iload_n 2, 1) := by decide +kernel
theorem dX5_drop_29 : decode cX5_drop 29 = .ok (.iadd, 1) := by decide +kernel
theorem dX5_drop_30 : decode cX5_drop 30 = .ok (.aload_n 0, 1) := by decide +kernel
theorem dX5_drop_31 : decode cX5_drop 31 = .ok (.getfield 7, 3) := by decide +kernel
theorem dX5_drop_34 : decode cX5_drop 34 = .ok (.bipush 10, 2) := by decide +kernel
theorem dX5_drop_36 : decode cX5_drop 36 = .ok (.iload_n 2, 1) := by decide +kernel
theorem dX5_drop_37 : decode cX5_drop 37 = .ok (.iadd, 1) := by decide +kernel
theorem dX5_drop_38 : decode cX5_drop 38 = .ok (.iconst 1, 1) := by decide +kernel
theorem dX5_drop_39 : decode cX5_drop 39 = .ok (.iadd, 1) := by decide +kernel
theorem dX5_drop_40 : decode cX5_drop 40 = .ok (.iaload, 1) := by decide +kernel
theorem dX5_drop_41 : decode cX5_drop 41 = .ok (.iastore, 1) := by decide +kernel
theorem dX5_drop_42 : decode cX5_drop 42 = .ok (.aload_n 0, 1) := by decide +kernel
theorem dX5_drop_43 : decode cX5_drop 43 = .ok (.getfield 7, 3) := by decide +kernel
theorem dX5_drop_46 : decode cX5_drop 46 = .ok (.bipush 17, 2) := by decide +kernel
theorem dX5_drop_48 : decode cX5_drop 48 = .ok (.iload_n 2, 1) := by decide +kernel
theorem dX5_drop_49 : decode cX5_drop 49 = .ok (.iadd, 1) := by decide +kernel
theorem dX5_drop_50 : decode cX5_drop 50 = .ok (.aload_n 0, 1) := by decide +kernel
theorem dX5_drop_51 : decode cX5_drop 51 = .ok (.getfield 7, 3) := by decide +kernel
theorem dX5_drop_54 : decode cX5_drop 54 = .ok (.bipush 17, 2) := by decide +kernel
theorem dX5_drop_56 : decode cX5_drop 56 = .ok (.iload_n 2, 1) := by decide +kernel
theorem dX5_drop_57 : decode cX5_drop 57 = .ok (.iadd, 1) := by decide +kernel
theorem dX5_drop_58 : decode cX5_drop 58 = .ok (.iconst 1, 1) := by decide +kernel
theorem dX5_drop_59 : decode cX5_drop 59 = .ok (.iadd, 1) := by decide +kernel
theorem dX5_drop_60 : decode cX5_drop 60 = .ok (.iaload, 1) := by decide +kernel
theorem dX5_drop_61 : decode cX5_drop 61 = .ok (.iastore, 1) := by decide +kernel
theorem dX5_drop_62 : decode cX5_drop 62 = .ok (.aload_n 0, 1) := by decide +kernel
theorem dX5_drop_63 : decode cX5_drop 63 = .ok (.getfield 7, 3) := by decide +kernel
theorem dX5_drop_66 : decode cX5_drop 66 = .ok (.bipush 24, 2) := by decide +kernel
theorem dX5_drop_68 : decode cX5_drop 68 = .ok (.iload_n 2, 1) := by decide +kernel
theorem dX5_drop_69 : decode cX5_drop 69 = .ok (.iadd, 1) := by decide +kernel
theorem dX5_drop_70 : decode cX5_drop 70 = .ok (.aload_n 0, 1) := by decide +kernel
theorem dX5_drop_71 : decode cX5_drop 71 = .ok (.getfield 7, 3) := by decide +kernel
theorem dX5_drop_74 : decode cX5_drop 74 = .ok (.bipush 24, 2) := by decide +kernel
theorem dX5_drop_76 : decode cX5_drop 76 = .ok (.iload_n 2, 1) := by decide +kernel
theorem dX5_drop_77 : decode cX5_drop 77 = .ok (.iadd, 1) := by decide +kernel
theorem dX5_drop_78 : decode cX5_drop 78 = .ok (.iconst 1, 1) := by decide +kernel
theorem dX5_drop_79 : decode cX5_drop 79 = .ok (.iadd, 1) := by decide +kernel
theorem dX5_drop_80 : decode cX5_drop 80 = .ok (.iaload, 1) := by decide +kernel
theorem dX5_drop_81 : decode cX5_drop 81 = .ok (.iastore, 1) := by decide +kernel
theorem dX5_drop_82 : decode cX5_drop 82 = .ok (.iinc 2 1, 3) := by decide +kernel
theorem dX5_drop_85 : decode cX5_drop 85 = .ok (.goto (-73), 3) := by decide +kernel
theorem dX5_drop_88 : decode cX5_drop 88 = .ok (.aload_n 0, 1) := by decide +kernel
theorem dX5_drop_89 : decode cX5_drop 89 = .ok (.getfield 7, 3) := by decide +kernel
theorem dX5_drop_92 : decode cX5_drop 92 = .ok (.bipush 9, 2) := by decide +kernel
theorem dX5_drop_94 : decode cX5_drop 94 = .ok (.dup2, 1) := by decide +kernel
theorem dX5_drop_95 : decode cX5_drop 95 = .ok (.iaload, 1) := by decide +kernel
theorem dX5_drop_96 : decode cX5_drop 96 = .ok (.iconst 1, 1) := by decide +kernel
theorem dX5_drop_97 : decode cX5_drop 97 = .ok (.isub, 1) := by decide +kernel
theorem dX5_drop_98 : decode cX5_drop 98 = .ok (.iastore, 1) := by decide +kernel
theorem dX5_drop_99 : decode cX5_drop 99 = .ok (.aload_n 0, 1) := by decide +kernel
theorem dX5_drop_100 : decode cX5_drop 100 = .ok (.invokevirtual 43, 3) := by decide +kernel
theorem dX5_drop_103 : decode cX5_drop 103 = .ok (.ireturn, 1) := by decide +kernel
theorem dX5_due_0 : decode cX5_due 0 = .ok (.aload_n 0, 1) := by decide +kernel
theorem dX5_due_1 : decode cX5_due 1 = .ok (.iload_n 1, 1) := by decide +kernel
theorem dX5_due_2 : decode cX5_due 2 = .ok (.invokevirtual 51, 3) := by decide +kernel
theorem dX5_due_5 : decode cX5_due 5 = .ok (.ifCond .ne 5, 3) := by decide +kernel
theorem dX5_due_8 : decode cX5_due 8 = .ok (.iconst (-1), 1) := by decide +kernel
theorem dX5_due_9 : decode cX5_due 9 = .ok (.ireturn, 1) := by decide +kernel
theorem dX5_due_10 : decode cX5_due 10 = .ok (.iload_n 2, 1) := by decide +kernel
theorem dX5_due_11 : decode cX5_due 11 = .ok (.iconst 0, 1) := by decide +kernel
theorem dX5_due_12 : decode cX5_due 12 = .ok (.bipush 99, 2) := by decide +kernel
theorem dX5_due_14 : decode cX5_due 14 = .ok (.invokestatic 39, 3) := by decide +kernel
theorem dX5_due_17 : decode cX5_due 17 = .ok (.ifCond .ne 6, 3) := by decide +kernel
theorem dX5_due_20 : decode cX5_due 20 = .ok (.bipush (-2), 2) := by decide +kernel
theorem dX5_due_22 : decode cX5_due 22 = .ok (.ireturn, 1) := by decide +kernel
theorem dX5_due_23 : decode cX5_due 23 = .ok (.aload_n 0, 1) := by decide +kernel
theorem dX5_due_24 : decode cX5_due 24 = .ok (.getfield 7, 3) := by decide +kernel
theorem dX5_due_27 : decode cX5_due 27 = .ok (.bipush 24, 2) := by decide +kernel
theorem dX5_due_29 : decode cX5_due 29 = .ok (.iload_n 1, 1) := by decide +kernel
theorem dX5_due_30 : decode cX5_due 30 = .ok (.iadd, 1) := by decide +kernel
theorem dX5_due_31 : decode cX5_due 31 = .ok (.iaload, 1) := by decide +kernel
theorem dX5_due_32 : decode cX5_due 32 = .ok (.istore_n 3, 1) := by decide +kernel
theorem dX5_due_33 : decode cX5_due 33 = .ok (.aload_n 0, 1) := by decide +kernel
theorem dX5_due_34 : decode cX5_due 34 = .ok (.getfield 7, 3) := by decide +kernel
theorem dX5_due_37 : decode cX5_due 37 = .ok (.bipush 24, 2) := by decide +kernel
theorem dX5_due_39 : decode cX5_due 39 = .ok (.iload_n 1, 1) := by decide +kernel
theorem dX5_due_40 : decode cX5_due 40 = .ok (.iadd, 1) := by decide +kernel
theorem dX5_due_41 : decode cX5_due 41 = .ok (.iload_n 2, 1) := by decide +kernel
theorem dX5_due_42 : decode cX5_due 42 = .ok (.iastore, 1) := by decide +kernel
theorem dX5_due_43 : decode cX5_due 43 = .ok (.iload_n 3, 1) := by decide +kernel
theorem dX5_due_44 : decode cX5_due 44 = .ok (.ireturn, 1) := by decide +kernel
theorem dX5_down_0 : decode cX5_down 0 = .ok (.iload_n 0, 1) := by decide +kernel
theorem dX5_down_1 : decode cX5_down 1 = .ok (.iload_n 1, 1) := by decide +kernel
theorem dX5_down_2 : decode cX5_down 2 = .ok (.idiv, 1) := by decide +kernel
theorem dX5_down_3 : decode cX5_down 3 = .ok (.istore_n 2, 1) := by decide +kernel
theorem dX5_down_4 : decode cX5_down 4 = .ok (.iload_n 0, 1) := by decide +kernel
theorem dX5_down_5 : decode cX5_down 5 = .ok (.ifCond .ge 16, 3) := by decide +kernel
theorem dX5_down_8 : decode cX5_down 8 = .ok (.iload_n 2, 1) := by decide +kernel
theorem dX5_down_9 : decode cX5_down 9 = .ok (.iload_n 1, 1) := by decide +kernel
theorem dX5_down_10 : decode cX5_down 10 = .ok (.imul, 1) := by decide +kernel
theorem dX5_down_11 : decode cX5_down 11 = .ok (.iload_n 0, 1) := by decide +kernel
theorem dX5_down_12 : decode cX5_down 12 = .ok (.if_icmp .eq 9, 3) := by decide +kernel
theorem dX5_down_15 : decode cX5_down 15 = .ok (.iload_n 2, 1) := by decide +kernel
theorem dX5_down_16 : decode cX5_down 16 = .ok (.iconst 1, 1) := by decide +kernel
theorem dX5_down_17 : decode cX5_down 17 = .ok (.isub, 1) := by decide +kernel
theorem dX5_down_18 : decode cX5_down 18 = .ok (.goto 4, 3) := by decide +kernel
theorem dX5_down_21 : decode cX5_down 21 = .ok (.iload_n 2, 1) := by decide +kernel
theorem dX5_down_22 : decode cX5_down 22 = .ok (.ireturn, 1) := by decide +kernel
theorem dX5_tight_0 : decode cX5_tight 0 = .ok (.aload_n 0, 1) := by decide +kernel
theorem dX5_tight_1 : decode cX5_tight 1 = .ok (.getfield 7, 3) := by decide +kernel
theorem dX5_tight_4 : decode cX5_tight 4 = .ok (.bipush 24, 2) := by decide +kernel
theorem dX5_tight_6 : decode cX5_tight 6 = .ok (.iload_n 1, 1) := by decide +kernel
theorem dX5_tight_7 : decode cX5_tight 7 = .ok (.iadd, 1) := by decide +kernel
theorem dX5_tight_8 : decode cX5_tight 8 = .ok (.iaload, 1) := by decide +kernel
theorem dX5_tight_9 : decode cX5_tight 9 = .ok (.aload_n 0, 1) := by decide +kernel
theorem dX5_tight_10 : decode cX5_tight 10 = .ok (.getfield 7, 3) := by decide +kernel
theorem dX5_tight_13 : decode cX5_tight 13 = .ok (.iconst 3, 1) := by decide +kernel
theorem dX5_tight_14 : decode cX5_tight 14 = .ok (.aload_n 0, 1) := by decide +kernel
theorem dX5_tight_15 : decode cX5_tight 15 = .ok (.getfield 7, 3) := by decide +kernel
theorem dX5_tight_18 : decode cX5_tight 18 = .ok (.bipush 10, 2) := by decide +kernel
theorem dX5_tight_20 : decode cX5_tight 20 = .ok (.iload_n 1, 1) := by decide +kernel
theorem dX5_tight_21 : decode cX5_tight 21 = .ok (.iadd, 1) := by decide +kernel
theorem dX5_tight_22 : decode cX5_tight 22 = .ok (.iaload, 1) := by decide +kernel
theorem dX5_tight_23 : decode cX5_tight 23 = .ok (.iadd, 1) := by decide +kernel
theorem dX5_tight_24 : decode cX5_tight 24 = .ok (.iaload, 1) := by decide +kernel
theorem dX5_tight_25 : decode cX5_tight 25 = .ok (.isub, 1) := by decide +kernel
theorem dX5_tight_26 : decode cX5_tight 26 = .ok (.aload_n 0, 1) := by decide +kernel
theorem dX5_tight_27 : decode cX5_tight 27 = .ok (.getfield 7, 3) := by decide +kernel
theorem dX5_tight_30 : decode cX5_tight 30 = .ok (.bipush 17, 2) := by decide +kernel
theorem dX5_tight_32 : decode cX5_tight 32 = .ok (.iload_n 1, 1) := by decide +kernel
theorem dX5_tight_33 : decode cX5_tight 33 = .ok (.iadd, 1) := by decide +kernel
theorem dX5_tight_34 : decode cX5_tight 34 = .ok (.iaload, 1) := by decide +kernel
theorem dX5_tight_35 : decode cX5_tight 35 = .ok (.invokestatic 54, 3) := by decide +kernel
theorem dX5_tight_38 : decode cX5_tight 38 = .ok (.ireturn, 1) := by decide +kernel
theorem dX5_of_0 : decode cX5_of 0 = .ok (.aload_n 0, 1) := by decide +kernel
theorem dX5_of_1 : decode cX5_of 1 = .ok (.iload_n 1, 1) := by decide +kernel
theorem dX5_of_2 : decode cX5_of 2 = .ok (.invokevirtual 51, 3) := by decide +kernel
theorem dX5_of_5 : decode cX5_of 5 = .ok (.ifCond .ne 5, 3) := by decide +kernel
theorem dX5_of_8 : decode cX5_of 8 = .ok (.iconst (-1), 1) := by decide +kernel
theorem dX5_of_9 : decode cX5_of 9 = .ok (.ireturn, 1) := by decide +kernel
theorem dX5_of_10 : decode cX5_of 10 = .ok (.iload_n 2, 1) := by decide +kernel
theorem dX5_of_11 : decode cX5_of 11 = .ok (.tableswitch 68 0 3 #[29, 39, 49, 59], 29) := by decide +kernel
theorem dX5_of_40 : decode cX5_of 40 = .ok (.aload_n 0, 1) := by decide +kernel
theorem dX5_of_41 : decode cX5_of 41 = .ok (.getfield 7, 3) := by decide +kernel
theorem dX5_of_44 : decode cX5_of 44 = .ok (.bipush 10, 2) := by decide +kernel
theorem dX5_of_46 : decode cX5_of 46 = .ok (.iload_n 1, 1) := by decide +kernel
theorem dX5_of_47 : decode cX5_of 47 = .ok (.iadd, 1) := by decide +kernel
theorem dX5_of_48 : decode cX5_of 48 = .ok (.iaload, 1) := by decide +kernel
theorem dX5_of_49 : decode cX5_of 49 = .ok (.ireturn, 1) := by decide +kernel
theorem dX5_of_50 : decode cX5_of 50 = .ok (.aload_n 0, 1) := by decide +kernel
theorem dX5_of_51 : decode cX5_of 51 = .ok (.getfield 7, 3) := by decide +kernel
theorem dX5_of_54 : decode cX5_of 54 = .ok (.bipush 17, 2) := by decide +kernel
theorem dX5_of_56 : decode cX5_of 56 = .ok (.iload_n 1, 1) := by decide +kernel
theorem dX5_of_57 : decode cX5_of 57 = .ok (.iadd, 1) := by decide +kernel
theorem dX5_of_58 : decode cX5_of 58 = .ok (.iaload, 1) := by decide +kernel
theorem dX5_of_59 : decode cX5_of 59 = .ok (.ireturn, 1) := by decide +kernel
theorem dX5_of_60 : decode cX5_of 60 = .ok (.aload_n 0, 1) := by decide +kernel
theorem dX5_of_61 : decode cX5_of 61 = .ok (.getfield 7, 3) := by decide +kernel
theorem dX5_of_64 : decode cX5_of 64 = .ok (.bipush 24, 2) := by decide +kernel
theorem dX5_of_66 : decode cX5_of 66 = .ok (.iload_n 1, 1) := by decide +kernel
theorem dX5_of_67 : decode cX5_of 67 = .ok (.iadd, 1) := by decide +kernel
theorem dX5_of_68 : decode cX5_of 68 = .ok (.iaload, 1) := by decide +kernel
theorem dX5_of_69 : decode cX5_of 69 = .ok (.ireturn, 1) := by decide +kernel
theorem dX5_of_70 : decode cX5_of 70 = .ok (.aload_n 0, 1) := by decide +kernel
theorem dX5_of_71 : decode cX5_of 71 = .ok (.iload_n 1, 1) := by decide +kernel
theorem dX5_of_72 : decode cX5_of 72 = .ok (.invokevirtual 58, 3) := by decide +kernel
theorem dX5_of_75 : decode cX5_of 75 = .ok (.bipush 100, 2) := by decide +kernel
theorem dX5_of_77 : decode cX5_of 77 = .ok (.iadd, 1) := by decide +kernel
theorem dX5_of_78 : decode cX5_of 78 = .ok (.ireturn, 1) := by decide +kernel
theorem dX5_of_79 : decode cX5_of 79 = .ok (.bipush (-2), 2) := by decide +kernel
theorem dX5_of_81 : decode cX5_of 81 = .ok (.ireturn, 1) := by decide +kernel
theorem dX5_has_0 : decode cX5_has 0 = .ok (.iload_n 0, 1) := by decide +kernel
theorem dX5_has_1 : decode cX5_has 1 = .ok (.iload_n 1, 1) := by decide +kernel
theorem dX5_has_2 : decode cX5_has 2 = .ok (.ishr, 1) := by decide +kernel
theorem dX5_has_3 : decode cX5_has 3 = .ok (.iconst 1, 1) := by decide +kernel
theorem dX5_has_4 : decode cX5_has 4 = .ok (.iand, 1) := by decide +kernel
theorem dX5_has_5 : decode cX5_has 5 = .ok (.iconst 1, 1) := by decide +kernel
theorem dX5_has_6 : decode cX5_has 6 = .ok (.if_icmp .ne 7, 3) := by decide +kernel
theorem dX5_has_9 : decode cX5_has 9 = .ok (.iconst 1, 1) := by decide +kernel
theorem dX5_has_10 : decode cX5_has 10 = .ok (.goto 4, 3) := by decide +kernel
theorem dX5_has_13 : decode cX5_has 13 = .ok (.iconst 0, 1) := by decide +kernel
theorem dX5_has_14 : decode cX5_has 14 = .ok (.ireturn, 1) := by decide +kernel
theorem dX5_volumeOf_0 : decode cX5_volumeOf 0 = .ok (.iconst 0, 1) := by decide +kernel
theorem dX5_volumeOf_1 : decode cX5_volumeOf 1 = .ok (.istore_n 2, 1) := by decide +kernel
theorem dX5_volumeOf_2 : decode cX5_volumeOf 2 = .ok (.iconst 0, 1) := by decide +kernel
theorem dX5_volumeOf_3 : decode cX5_volumeOf 3 = .ok (.istore_n 3, 1) := by decide +kernel
theorem dX5_volumeOf_4 : decode cX5_volumeOf 4 = .ok (.iload_n 3, 1) := by decide +kernel
theorem dX5_volumeOf_5 : decode cX5_volumeOf 5 = .ok (.aload_n 0, 1) := by decide +kernel
theorem dX5_volumeOf_6 : decode cX5_volumeOf 6 = .ok (.invokevirtual 43, 3) := by decide +kernel
theorem dX5_volumeOf_9 : decode cX5_volumeOf 9 = .ok (.if_icmp .ge 33, 3) := by decide +kernel
theorem dX5_volumeOf_12 : decode cX5_volumeOf 12 = .ok (.iload_n 2, 1) := by decide +kernel
theorem dX5_volumeOf_13 : decode cX5_volumeOf 13 = .ok (.iload_n 1, 1) := by decide +kernel
theorem dX5_volumeOf_14 : decode cX5_volumeOf 14 = .ok (.iload_n 3, 1) := by decide +kernel
theorem dX5_volumeOf_15 : decode cX5_volumeOf 15 = .ok (.invokestatic 62, 3) := by decide +kernel
theorem dX5_volumeOf_18 : decode cX5_volumeOf 18 = .ok (.ifCond .eq 15, 3) := by decide +kernel
theorem dX5_volumeOf_21 : decode cX5_volumeOf 21 = .ok (.aload_n 0, 1) := by decide +kernel
theorem dX5_volumeOf_22 : decode cX5_volumeOf 22 = .ok (.getfield 7, 3) := by decide +kernel
theorem dX5_volumeOf_25 : decode cX5_volumeOf 25 = .ok (.bipush 17, 2) := by decide +kernel
theorem dX5_volumeOf_27 : decode cX5_volumeOf 27 = .ok (.iload_n 3, 1) := by decide +kernel
theorem dX5_volumeOf_28 : decode cX5_volumeOf 28 = .ok (.iadd, 1) := by decide +kernel
theorem dX5_volumeOf_29 : decode cX5_volumeOf 29 = .ok (.iaload, 1) := by decide +kernel
theorem dX5_volumeOf_30 : decode cX5_volumeOf 30 = .ok (.goto 4, 3) := by decide +kernel
theorem dX5_volumeOf_33 : decode cX5_volumeOf 33 = .ok (.iconst 0, 1) := by decide +kernel
theorem dX5_volumeOf_34 : decode cX5_volumeOf 34 = .ok (.iadd, 1) := by decide +kernel
theorem dX5_volumeOf_35 : decode cX5_volumeOf 35 = .ok (.istore_n 2, 1) := by decide +kernel
theorem dX5_volumeOf_36 : decode cX5_volumeOf 36 = .ok (.iinc 3 1, 3) := by decide +kernel
theorem dX5_volumeOf_39 : decode cX5_volumeOf 39 = .ok (.goto (-35), 3) := by decide +kernel
theorem dX5_volumeOf_42 : decode cX5_volumeOf 42 = .ok (.iload_n 2, 1) := by decide +kernel
theorem dX5_volumeOf_43 : decode cX5_volumeOf 43 = .ok (.ireturn, 1) := by decide +kernel
theorem dX5_familyOf_0 : decode cX5_familyOf 0 = .ok (.bipush (-6), 2) := by decide +kernel
theorem dX5_familyOf_2 : decode cX5_familyOf 2 = .ok (.istore_n 2, 1) := by decide +kernel
theorem dX5_familyOf_3 : decode cX5_familyOf 3 = .ok (.iconst 0, 1) := by decide +kernel
theorem dX5_familyOf_4 : decode cX5_familyOf 4 = .ok (.istore_n 3, 1) := by decide +kernel
theorem dX5_familyOf_5 : decode cX5_familyOf 5 = .ok (.iload_n 3, 1) := by decide +kernel
theorem dX5_familyOf_6 : decode cX5_familyOf 6 = .ok (.aload_n 0, 1) := by decide +kernel
theorem dX5_familyOf_7 : decode cX5_familyOf 7 = .ok (.invokevirtual 43, 3) := by decide +kernel
theorem dX5_familyOf_10 : decode cX5_familyOf 10 = .ok (.if_icmp .ge 47, 3) := by decide +kernel
theorem dX5_familyOf_13 : decode cX5_familyOf 13 = .ok (.iload_n 1, 1) := by decide +kernel
theorem dX5_familyOf_14 : decode cX5_familyOf 14 = .ok (.iload_n 3, 1) := by decide +kernel
theorem dX5_familyOf_15 : decode cX5_familyOf 15 = .ok (.invokestatic 62, 3) := by decide +kernel
theorem dX5_familyOf_18 : decode cX5_familyOf 18 = .ok (.ifCond .eq 33, 3) := by decide +kernel
theorem dX5_familyOf_21 : decode cX5_familyOf 21 = .ok (.iload_n 2, 1) := by decide +kernel
theorem dX5_familyOf_22 : decode cX5_familyOf 22 = .ok (.ifCond .lt 19, 3) := by decide +kernel
theorem dX5_familyOf_25 : decode cX5_familyOf 25 = .ok (.iload_n 2, 1) := by decide +kernel
theorem dX5_familyOf_26 : decode cX5_familyOf 26 = .ok (.aload_n 0, 1) := by decide +kernel
theorem dX5_familyOf_27 : decode cX5_familyOf 27 = .ok (.getfield 7, 3) := by decide +kernel
theorem dX5_familyOf_30 : decode cX5_familyOf 30 = .ok (.bipush 10, 2) := by decide +kernel
theorem dX5_familyOf_32 : decode cX5_familyOf 32 = .ok (.iload_n 3, 1) := by decide +kernel
theorem dX5_familyOf_33 : decode cX5_familyOf 33 = .ok (.iadd, 1) := by decide +kernel
theorem dX5_familyOf_34 : decode cX5_familyOf 34 = .ok (.iaload, 1) := by decide +kernel
theorem dX5_familyOf_35 : decode cX5_familyOf 35 = .ok (.if_icmp .eq 6, 3) := by decide +kernel
theorem dX5_familyOf_38 : decode cX5_familyOf 38 = .ok (.bipush (-6), 2) := by decide +kernel
theorem dX5_familyOf_40 : decode cX5_familyOf 40 = .ok (.ireturn, 1) := by decide +kernel
theorem dX5_familyOf_41 : decode cX5_familyOf 41 = .ok (.aload_n 0, 1) := by decide +kernel
theorem dX5_familyOf_42 : decode cX5_familyOf 42 = .ok (.getfield 7, 3) := by decide +kernel
theorem dX5_familyOf_45 : decode cX5_familyOf 45 = .ok (.bipush 10, 2) := by decide +kernel
theorem dX5_familyOf_47 : decode cX5_familyOf 47 = .ok (.iload_n 3, 1) := by decide +kernel
theorem dX5_familyOf_48 : decode cX5_familyOf 48 = .ok (.iadd, 1) := by decide +kernel
theorem dX5_familyOf_49 : decode cX5_familyOf 49 = .ok (.iaload, 1) := by decide +kernel
theorem dX5_familyOf_50 : decode cX5_familyOf 50 = .ok (.istore_n 2, 1) := by decide +kernel
theorem dX5_familyOf_51 : decode cX5_familyOf 51 = .ok (.iinc 3 1, 3) := by decide +kernel
theorem dX5_familyOf_54 : decode cX5_familyOf 54 = .ok (.goto (-49), 3) := by decide +kernel
theorem dX5_familyOf_57 : decode cX5_familyOf 57 = .ok (.iload_n 2, 1) := by decide +kernel
theorem dX5_familyOf_58 : decode cX5_familyOf 58 = .ok (.ireturn, 1) := by decide +kernel
theorem dX5_changeOf_0 : decode cX5_changeOf 0 = .ok (.iload_n 2, 1) := by decide +kernel
theorem dX5_changeOf_1 : decode cX5_changeOf 1 = .ok (.iload_n 1, 1) := by decide +kernel
theorem dX5_changeOf_2 : decode cX5_changeOf 2 = .ok (.if_icmp .le 17, 3) := by decide +kernel
theorem dX5_changeOf_5 : decode cX5_changeOf 5 = .ok (.aload_n 0, 1) := by decide +kernel
theorem dX5_changeOf_6 : decode cX5_changeOf 6 = .ok (.getfield 7, 3) := by decide +kernel
theorem dX5_changeOf_9 : decode cX5_changeOf 9 = .ok (.bipush 7, 2) := by decide +kernel
theorem dX5_changeOf_11 : decode cX5_changeOf 11 = .ok (.iaload, 1) := by decide +kernel
theorem dX5_changeOf_12 : decode cX5_changeOf 12 = .ok (.iload_n 2, 1) := by decide +kernel
theorem dX5_changeOf_13 : decode cX5_changeOf 13 = .ok (.iload_n 1, 1) := by decide +kernel
theorem dX5_changeOf_14 : decode cX5_changeOf 14 = .ok (.isub, 1) := by decide +kernel
theorem dX5_changeOf_15 : decode cX5_changeOf 15 = .ok (.imul, 1) := by decide +kernel
theorem dX5_changeOf_16 : decode cX5_changeOf 16 = .ok (.goto 14, 3) := by decide +kernel
theorem dX5_changeOf_19 : decode cX5_changeOf 19 = .ok (.aload_n 0, 1) := by decide +kernel
theorem dX5_changeOf_20 : decode cX5_changeOf 20 = .ok (.getfield 7, 3) := by decide +kernel
theorem dX5_changeOf_23 : decode cX5_changeOf 23 = .ok (.bipush 8, 2) := by decide +kernel
theorem dX5_changeOf_25 : decode cX5_changeOf 25 = .ok (.iaload, 1) := by decide +kernel
theorem dX5_changeOf_26 : decode cX5_changeOf 26 = .ok (.iload_n 1, 1) := by decide +kernel
theorem dX5_changeOf_27 : decode cX5_changeOf 27 = .ok (.iload_n 2, 1) := by decide +kernel
theorem dX5_changeOf_28 : decode cX5_changeOf 28 = .ok (.isub, 1) := by decide +kernel
theorem dX5_changeOf_29 : decode cX5_changeOf 29 = .ok (.imul, 1) := by decide +kernel
theorem dX5_changeOf_30 : decode cX5_changeOf 30 = .ok (.ireturn, 1) := by decide +kernel
theorem dX5_endOf_0 : decode cX5_endOf 0 = .ok (.iload_n 2, 1) := by decide +kernel
theorem dX5_endOf_1 : decode cX5_endOf 1 = .ok (.iconst 3, 1) := by decide +kernel
theorem dX5_endOf_2 : decode cX5_endOf 2 = .ok (.if_icmp .ne 7, 3) := by decide +kernel
theorem dX5_endOf_5 : decode cX5_endOf 5 = .ok (.iconst 0, 1) := by decide +kernel
theorem dX5_endOf_6 : decode cX5_endOf 6 = .ok (.goto 11, 3) := by decide +kernel
theorem dX5_endOf_9 : decode cX5_endOf 9 = .ok (.aload_n 0, 1) := by decide +kernel
theorem dX5_endOf_10 : decode cX5_endOf 10 = .ok (.getfield 7, 3) := by decide +kernel
theorem dX5_endOf_13 : decode cX5_endOf 13 = .ok (.iconst 0, 1) := by decide +kernel
theorem dX5_endOf_14 : decode cX5_endOf 14 = .ok (.iload_n 2, 1) := by decide +kernel
theorem dX5_endOf_15 : decode cX5_endOf 15 = .ok (.iadd, 1) := by decide +kernel
theorem dX5_endOf_16 : decode cX5_endOf 16 = .ok (.iaload, 1) := by decide +kernel
theorem dX5_endOf_17 : decode cX5_endOf 17 = .ok (.istore 4, 2) := by decide +kernel
theorem dX5_endOf_19 : decode cX5_endOf 19 = .ok (.iload_n 1, 1) := by decide +kernel
theorem dX5_endOf_20 : decode cX5_endOf 20 = .ok (.aload_n 0, 1) := by decide +kernel
theorem dX5_endOf_21 : decode cX5_endOf 21 = .ok (.iload 4, 2) := by decide +kernel
theorem dX5_endOf_23 : decode cX5_endOf 23 = .ok (.aload_n 0, 1) := by decide +kernel
theorem dX5_endOf_24 : decode cX5_endOf 24 = .ok (.getfield 7, 3) := by decide +kernel
theorem dX5_endOf_27 : decode cX5_endOf 27 = .ok (.iconst 0, 1) := by decide +kernel
theorem dX5_endOf_28 : decode cX5_endOf 28 = .ok (.iload_n 3, 1) := by decide +kernel
theorem dX5_endOf_29 : decode cX5_endOf 29 = .ok (.iadd, 1) := by decide +kernel
theorem dX5_endOf_30 : decode cX5_endOf 30 = .ok (.iaload, 1) := by decide +kernel
theorem dX5_endOf_31 : decode cX5_endOf 31 = .ok (.invokevirtual 66, 3) := by decide +kernel
theorem dX5_endOf_34 : decode cX5_endOf 34 = .ok (.iadd, 1) := by decide +kernel
theorem dX5_endOf_35 : decode cX5_endOf 35 = .ok (.aload_n 0, 1) := by decide +kernel
theorem dX5_endOf_36 : decode cX5_endOf 36 = .ok (.getfield 7, 3) := by decide +kernel
theorem dX5_endOf_39 : decode cX5_endOf 39 = .ok (.iconst 3, 1) := by decide +kernel
theorem dX5_endOf_40 : decode cX5_endOf 40 = .ok (.iload_n 3, 1) := by decide +kernel
theorem dX5_endOf_41 : decode cX5_endOf 41 = .ok (.iadd, 1) := by decide +kernel
theorem dX5_endOf_42 : decode cX5_endOf 42 = .ok (.iaload, 1) := by decide +kernel
theorem dX5_endOf_43 : decode cX5_endOf 43 = .ok (.iadd, 1) := by decide +kernel
theorem dX5_endOf_44 : decode cX5_endOf 44 = .ok (.ireturn, 1) := by decide +kernel
theorem dX5_worstOf_0 : decode cX5_worstOf 0 = .ok (.iconst 0, 1) := by decide +kernel
theorem dX5_worstOf_1 : decode cX5_worstOf 1 = .ok (.istore_n 3, 1) := by decide +kernel
theorem dX5_worstOf_2 : decode cX5_worstOf 2 = .ok (.iconst 0, 1) := by decide +kernel
theorem dX5_worstOf_3 : decode cX5_worstOf 3 = .ok (.istore 4, 2) := by decide +kernel
theorem dX5_worstOf_5 : decode cX5_worstOf 5 = .ok (.iload 4, 2) := by decide +kernel
theorem dX5_worstOf_7 : decode cX5_worstOf 7 = .ok (.aload_n 0, 1) := by decide +kernel
theorem dX5_worstOf_8 : decode cX5_worstOf 8 = .ok (.invokevirtual 43, 3) := by decide +kernel
theorem dX5_worstOf_11 : decode cX5_worstOf 11 = .ok (.if_icmp .ge 49, 3) := by decide +kernel
theorem dX5_worstOf_14 : decode cX5_worstOf 14 = .ok (.iload_n 1, 1) := by decide +kernel
theorem dX5_worstOf_15 : decode cX5_worstOf 15 = .ok (.iload 4, 2) := by decide +kernel
theorem dX5_worstOf_17 : decode cX5_worstOf 17 = .ok (.invokestatic 62, 3) := by decide +kernel
theorem dX5_worstOf_20 : decode cX5_worstOf 20 = .ok (.ifCond .eq 18, 3) := by decide +kernel
theorem dX5_worstOf_23 : decode cX5_worstOf 23 = .ok (.iload_n 2, 1) := by decide +kernel
theorem dX5_worstOf_24 : decode cX5_worstOf 24 = .ok (.aload_n 0, 1) := by decide +kernel
theorem dX5_worstOf_25 : decode cX5_worstOf 25 = .ok (.getfield 7, 3) := by decide +kernel
theorem dX5_worstOf_28 : decode cX5_worstOf 28 = .ok (.bipush 24, 2) := by decide +kernel
theorem dX5_worstOf_30 : decode cX5_worstOf 30 = .ok (.iload 4, 2) := by decide +kernel
theorem dX5_worstOf_32 : decode cX5_worstOf 32 = .ok (.iadd, 1) := by decide +kernel
theorem dX5_worstOf_33 : decode cX5_worstOf 33 = .ok (.iaload, 1) := by decide +kernel
theorem dX5_worstOf_34 : decode cX5_worstOf 34 = .ok (.isub, 1) := by decide +kernel
theorem dX5_worstOf_35 : decode cX5_worstOf 35 = .ok (.goto 4, 3) := by decide +kernel
theorem dX5_worstOf_38 : decode cX5_worstOf 38 = .ok (.iconst 0, 1) := by decide +kernel
theorem dX5_worstOf_39 : decode cX5_worstOf 39 = .ok (.istore 5, 2) := by decide +kernel
theorem dX5_worstOf_41 : decode cX5_worstOf 41 = .ok (.iload 5, 2) := by decide +kernel
theorem dX5_worstOf_43 : decode cX5_worstOf 43 = .ok (.iload_n 3, 1) := by decide +kernel
theorem dX5_worstOf_44 : decode cX5_worstOf 44 = .ok (.if_icmp .le 8, 3) := by decide +kernel
theorem dX5_worstOf_47 : decode cX5_worstOf 47 = .ok (.iload 5, 2) := by decide +kernel
theorem dX5_worstOf_49 : decode cX5_worstOf 49 = .ok (.goto 4, 3) := by decide +kernel
theorem dX5_worstOf_52 : decode cX5_worstOf 52 = .ok (.iload_n 3, 1) := by decide +kernel
theorem dX5_worstOf_53 : decode cX5_worstOf 53 = .ok (.istore_n 3, 1) := by decide +kernel
theorem dX5_worstOf_54 : decode cX5_worstOf 54 = .ok (.iinc 4 1, 3) := by decide +kernel
theorem dX5_worstOf_57 : decode cX5_worstOf 57 = .ok (.goto (-52), 3) := by decide +kernel
theorem dX5_worstOf_60 : decode cX5_worstOf 60 = .ok (.iload_n 3, 1) := by decide +kernel
theorem dX5_worstOf_61 : decode cX5_worstOf 61 = .ok (.ireturn, 1) := by decide +kernel
theorem dX5_sumOf_0 : decode cX5_sumOf 0 = .ok (.iconst 0, 1) := by decide +kernel
theorem dX5_sumOf_1 : decode cX5_sumOf 1 = .ok (.istore_n 3, 1) := by decide +kernel
theorem dX5_sumOf_2 : decode cX5_sumOf 2 = .ok (.iconst 0, 1) := by decide +kernel
theorem dX5_sumOf_3 : decode cX5_sumOf 3 = .ok (.istore 4, 2) := by decide +kernel
theorem dX5_sumOf_5 : decode cX5_sumOf 5 = .ok (.iload 4, 2) := by decide +kernel
theorem dX5_sumOf_7 : decode cX5_sumOf 7 = .ok (.aload_n 0, 1) := by decide +kernel
theorem dX5_sumOf_8 : decode cX5_sumOf 8 = .ok (.invokevirtual 43, 3) := by decide +kernel
theorem dX5_sumOf_11 : decode cX5_sumOf 11 = .ok (.if_icmp .ge 50, 3) := by decide +kernel
theorem dX5_sumOf_14 : decode cX5_sumOf 14 = .ok (.iload_n 1, 1) := by decide +kernel
theorem dX5_sumOf_15 : decode cX5_sumOf 15 = .ok (.iload 4, 2) := by decide +kernel
theorem dX5_sumOf_17 : decode cX5_sumOf 17 = .ok (.invokestatic 62, 3) := by decide +kernel
theorem dX5_sumOf_20 : decode cX5_sumOf 20 = .ok (.ifCond .eq 18, 3) := by decide +kernel
theorem dX5_sumOf_23 : decode cX5_sumOf 23 = .ok (.iload_n 2, 1) := by decide +kernel
theorem dX5_sumOf_24 : decode cX5_sumOf 24 = .ok (.aload_n 0, 1) := by decide +kernel
theorem dX5_sumOf_25 : decode cX5_sumOf 25 = .ok (.getfield 7, 3) := by decide +kernel
theorem dX5_sumOf_28 : decode cX5_sumOf 28 = .ok (.bipush 24, 2) := by decide +kernel
theorem dX5_sumOf_30 : decode cX5_sumOf 30 = .ok (.iload 4, 2) := by decide +kernel
theorem dX5_sumOf_32 : decode cX5_sumOf 32 = .ok (.iadd, 1) := by decide +kernel
theorem dX5_sumOf_33 : decode cX5_sumOf 33 = .ok (.iaload, 1) := by decide +kernel
theorem dX5_sumOf_34 : decode cX5_sumOf 34 = .ok (.isub, 1) := by decide +kernel
theorem dX5_sumOf_35 : decode cX5_sumOf 35 = .ok (.goto 4, 3) := by decide +kernel
theorem dX5_sumOf_38 : decode cX5_sumOf 38 = .ok (.iconst 0, 1) := by decide +kernel
theorem dX5_sumOf_39 : decode cX5_sumOf 39 = .ok (.istore 5, 2) := by decide +kernel
theorem dX5_sumOf_41 : decode cX5_sumOf 41 = .ok (.iload_n 3, 1) := by decide +kernel
theorem dX5_sumOf_42 : decode cX5_sumOf 42 = .ok (.iload 5, 2) := by decide +kernel
theorem dX5_sumOf_44 : decode cX5_sumOf 44 = .ok (.ifCond .le 8, 3) := by decide +kernel
theorem dX5_sumOf_47 : decode cX5_sumOf 47 = .ok (.iload 5, 2) := by decide +kernel
theorem dX5_sumOf_49 : decode cX5_sumOf 49 = .ok (.goto 4, 3) := by decide +kernel
theorem dX5_sumOf_52 : decode cX5_sumOf 52 = .ok (.iconst 0, 1) := by decide +kernel
theorem dX5_sumOf_53 : decode cX5_sumOf 53 = .ok (.iadd, 1) := by decide +kernel
theorem dX5_sumOf_54 : decode cX5_sumOf 54 = .ok (.istore_n 3, 1) := by decide +kernel
theorem dX5_sumOf_55 : decode cX5_sumOf 55 = .ok (.iinc 4 1, 3) := by decide +kernel
theorem dX5_sumOf_58 : decode cX5_sumOf 58 = .ok (.goto (-53), 3) := by decide +kernel
theorem dX5_sumOf_61 : decode cX5_sumOf 61 = .ok (.iload_n 3, 1) := by decide +kernel
theorem dX5_sumOf_62 : decode cX5_sumOf 62 = .ok (.ireturn, 1) := by decide +kernel
theorem dX5_layEnds_0 : decode cX5_layEnds 0 = .ok (.iconst 0, 1) := by decide +kernel
theorem dX5_layEnds_1 : decode cX5_layEnds 1 = .ok (.istore_n 1, 1) := by decide +kernel
theorem dX5_layEnds_2 : decode cX5_layEnds 2 = .ok (.iconst 3, 1) := by decide +kernel
theorem dX5_layEnds_3 : decode cX5_layEnds 3 = .ok (.istore_n 2, 1) := by decide +kernel
theorem dX5_layEnds_4 : decode cX5_layEnds 4 = .ok (.iconst 0, 1) := by decide +kernel
theorem dX5_layEnds_5 : decode cX5_layEnds 5 = .ok (.istore_n 3, 1) := by decide +kernel
theorem dX5_layEnds_6 : decode cX5_layEnds 6 = .ok (.iload_n 3, 1) := by decide +kernel
theorem dX5_layEnds_7 : decode cX5_layEnds 7 = .ok (.aload_n 0, 1) := by decide +kernel
theorem dX5_layEnds_8 : decode cX5_layEnds 8 = .ok (.getfield 69, 3) := by decide +kernel
theorem dX5_layEnds_11 : decode cX5_layEnds 11 = .ok (.if_icmp .ge 40, 3) := by decide +kernel
theorem dX5_layEnds_14 : decode cX5_layEnds 14 = .ok (.aload_n 0, 1) := by decide +kernel
theorem dX5_layEnds_15 : decode cX5_layEnds 15 = .ok (.aload_n 0, 1) := by decide +kernel
theorem dX5_layEnds_16 : decode cX5_layEnds 16 = .ok (.getfield 23, 3) := by decide +kernel
theorem dX5_layEnds_19 : decode cX5_layEnds 19 = .ok (.iload_n 3, 1) := by decide +kernel
theorem dX5_layEnds_20 : decode cX5_layEnds 20 = .ok (.iaload, 1) := by decide +kernel
theorem dX5_layEnds_21 : decode cX5_layEnds 21 = .ok (.invokevirtual 73, 3) := by decide +kernel
theorem dX5_layEnds_24 : decode cX5_layEnds 24 = .ok (.istore 4, 2) := by decide +kernel
theorem dX5_layEnds_26 : decode cX5_layEnds 26 = .ok (.aload_n 0, 1) := by decide +kernel
theorem dX5_layEnds_27 : decode cX5_layEnds 27 = .ok (.iload_n 1, 1) := by decide +kernel
theorem dX5_layEnds_28 : decode cX5_layEnds 28 = .ok (.iload_n 2, 1) := by decide +kernel
theorem dX5_layEnds_29 : decode cX5_layEnds 29 = .ok (.iload 4, 2) := by decide +kernel
theorem dX5_layEnds_31 : decode cX5_layEnds 31 = .ok (.invokevirtual 76, 3) := by decide +kernel
theorem dX5_layEnds_34 : decode cX5_layEnds 34 = .ok (.istore_n 1, 1) := by decide +kernel
theorem dX5_layEnds_35 : decode cX5_layEnds 35 = .ok (.iload 4, 2) := by decide +kernel
theorem dX5_layEnds_37 : decode cX5_layEnds 37 = .ok (.istore_n 2, 1) := by decide +kernel
theorem dX5_layEnds_38 : decode cX5_layEnds 38 = .ok (.aload_n 0, 1) := by decide +kernel
theorem dX5_layEnds_39 : decode cX5_layEnds 39 = .ok (.getfield 26, 3) := by decide +kernel
theorem dX5_layEnds_42 : decode cX5_layEnds 42 = .ok (.iload_n 3, 1) := by decide +kernel
theorem dX5_layEnds_43 : decode cX5_layEnds 43 = .ok (.iload_n 1, 1) := by decide +kernel
theorem dX5_layEnds_44 : decode cX5_layEnds 44 = .ok (.iastore, 1) := by decide +kernel
theorem dX5_layEnds_45 : decode cX5_layEnds 45 = .ok (.iinc 3 1, 3) := by decide +kernel
theorem dX5_layEnds_48 : decode cX5_layEnds 48 = .ok (.goto (-42), 3) := by decide +kernel
theorem dX5_layEnds_51 : decode cX5_layEnds 51 = .ok (.return_, 1) := by decide +kernel
theorem dX5_measureOf_0 : decode cX5_measureOf 0 = .ok (.aload_n 0, 1) := by decide +kernel
theorem dX5_measureOf_1 : decode cX5_measureOf 1 = .ok (.invokevirtual 80, 3) := by decide +kernel
theorem dX5_measureOf_4 : decode cX5_measureOf 4 = .ok (.iconst 0, 1) := by decide +kernel
theorem dX5_measureOf_5 : decode cX5_measureOf 5 = .ok (.istore_n 2, 1) := by decide +kernel
theorem dX5_measureOf_6 : decode cX5_measureOf 6 = .ok (.iconst 0, 1) := by decide +kernel
theorem dX5_measureOf_7 : decode cX5_measureOf 7 = .ok (.istore_n 3, 1) := by decide +kernel
theorem dX5_measureOf_8 : decode cX5_measureOf 8 = .ok (.iconst 0, 1) := by decide +kernel
theorem dX5_measureOf_9 : decode cX5_measureOf 9 = .ok (.istore 4, 2) := by decide +kernel
theorem dX5_measureOf_11 : decode cX5_measureOf 11 = .ok (.iload 4, 2) := by decide +kernel
theorem dX5_measureOf_13 : decode cX5_measureOf 13 = .ok (.aload_n 0, 1) := by decide +kernel
theorem dX5_measureOf_14 : decode cX5_measureOf 14 = .ok (.getfield 69, 3) := by decide +kernel
theorem dX5_measureOf_17 : decode cX5_measureOf 17 = .ok (.if_icmp .ge 63, 3) := by decide +kernel
theorem dX5_measureOf_20 : decode cX5_measureOf 20 = .ok (.aload_n 0, 1) := by decide +kernel
theorem dX5_measureOf_21 : decode cX5_measureOf 21 = .ok (.aload_n 0, 1) := by decide +kernel
theorem dX5_measureOf_22 : decode cX5_measureOf 22 = .ok (.getfield 23, 3) := by decide +kernel
theorem dX5_measureOf_25 : decode cX5_measureOf 25 = .ok (.iload 4, 2) := by decide +kernel
theorem dX5_measureOf_27 : decode cX5_measureOf 27 = .ok (.iaload, 1) := by decide +kernel
theorem dX5_measureOf_28 : decode cX5_measureOf 28 = .ok (.aload_n 0, 1) := by decide +kernel
theorem dX5_measureOf_29 : decode cX5_measureOf 29 = .ok (.getfield 26, 3) := by decide +kernel
theorem dX5_measureOf_32 : decode cX5_measureOf 32 = .ok (.iload 4, 2) := by decide +kernel
theorem dX5_measureOf_34 : decode cX5_measureOf 34 = .ok (.iaload, 1) := by decide +kernel
theorem dX5_measureOf_35 : decode cX5_measureOf 35 = .ok (.invokevirtual 83, 3) := by decide +kernel
theorem dX5_measureOf_38 : decode cX5_measureOf 38 = .ok (.istore 5, 2) := by decide +kernel
theorem dX5_measureOf_40 : decode cX5_measureOf 40 = .ok (.iload 5, 2) := by decide +kernel
theorem dX5_measureOf_42 : decode cX5_measureOf 42 = .ok (.iload_n 2, 1) := by decide +kernel
theorem dX5_measureOf_43 : decode cX5_measureOf 43 = .ok (.if_icmp .le 8, 3) := by decide +kernel
theorem dX5_measureOf_46 : decode cX5_measureOf 46 = .ok (.iload 5, 2) := by decide +kernel
theorem dX5_measureOf_48 : decode cX5_measureOf 48 = .ok (.goto 4, 3) := by decide +kernel
theorem dX5_measureOf_51 : decode cX5_measureOf 51 = .ok (.iload_n 2, 1) := by decide +kernel
theorem dX5_measureOf_52 : decode cX5_measureOf 52 = .ok (.istore_n 2, 1) := by decide +kernel
theorem dX5_measureOf_53 : decode cX5_measureOf 53 = .ok (.iload_n 3, 1) := by decide +kernel
theorem dX5_measureOf_54 : decode cX5_measureOf 54 = .ok (.aload_n 0, 1) := by decide +kernel
theorem dX5_measureOf_55 : decode cX5_measureOf 55 = .ok (.aload_n 0, 1) := by decide +kernel
theorem dX5_measureOf_56 : decode cX5_measureOf 56 = .ok (.getfield 23, 3) := by decide +kernel
theorem dX5_measureOf_59 : decode cX5_measureOf 59 = .ok (.iload 4, 2) := by decide +kernel
theorem dX5_measureOf_61 : decode cX5_measureOf 61 = .ok (.iaload, 1) := by decide +kernel
theorem dX5_measureOf_62 : decode cX5_measureOf 62 = .ok (.aload_n 0, 1) := by decide +kernel
theorem dX5_measureOf_63 : decode cX5_measureOf 63 = .ok (.getfield 26, 3) := by decide +kernel
theorem dX5_measureOf_66 : decode cX5_measureOf 66 = .ok (.iload 4, 2) := by decide +kernel
theorem dX5_measureOf_68 : decode cX5_measureOf 68 = .ok (.iaload, 1) := by decide +kernel
theorem dX5_measureOf_69 : decode cX5_measureOf 69 = .ok (.invokevirtual 86, 3) := by decide +kernel
theorem dX5_measureOf_72 : decode cX5_measureOf 72 = .ok (.iadd, 1) := by decide +kernel
theorem dX5_measureOf_73 : decode cX5_measureOf 73 = .ok (.istore_n 3, 1) := by decide +kernel
theorem dX5_measureOf_74 : decode cX5_measureOf 74 = .ok (.iinc 4 1, 3) := by decide +kernel
theorem dX5_measureOf_77 : decode cX5_measureOf 77 = .ok (.goto (-66), 3) := by decide +kernel
theorem dX5_measureOf_80 : decode cX5_measureOf 80 = .ok (.iload_n 1, 1) := by decide +kernel
theorem dX5_measureOf_81 : decode cX5_measureOf 81 = .ok (.ifCond .ne 7, 3) := by decide +kernel
theorem dX5_measureOf_84 : decode cX5_measureOf 84 = .ok (.iload_n 2, 1) := by decide +kernel
theorem dX5_measureOf_85 : decode cX5_measureOf 85 = .ok (.goto 46, 3) := by decide +kernel
theorem dX5_measureOf_88 : decode cX5_measureOf 88 = .ok (.iload_n 1, 1) := by decide +kernel
theorem dX5_measureOf_89 : decode cX5_measureOf 89 = .ok (.iconst 1, 1) := by decide +kernel
theorem dX5_measureOf_90 : decode cX5_measureOf 90 = .ok (.if_icmp .ne 7, 3) := by decide +kernel
theorem dX5_measureOf_93 : decode cX5_measureOf 93 = .ok (.iload_n 3, 1) := by decide +kernel
theorem dX5_measureOf_94 : decode cX5_measureOf 94 = .ok (.goto 37, 3) := by decide +kernel
theorem dX5_measureOf_97 : decode cX5_measureOf 97 = .ok (.iload_n 1, 1) := by decide +kernel
theorem dX5_measureOf_98 : decode cX5_measureOf 98 = .ok (.iconst 3, 1) := by decide +kernel
theorem dX5_measureOf_99 : decode cX5_measureOf 99 = .ok (.if_icmp .ne 10, 3) := by decide +kernel
theorem dX5_measureOf_102 : decode cX5_measureOf 102 = .ok (.aload_n 0, 1) := by decide +kernel
theorem dX5_measureOf_103 : decode cX5_measureOf 103 = .ok (.getfield 69, 3) := by decide +kernel
theorem dX5_measureOf_106 : decode cX5_measureOf 106 = .ok (.goto 25, 3) := by decide +kernel
theorem dX5_measureOf_109 : decode cX5_measureOf 109 = .ok (.aload_n 0, 1) := by decide +kernel
theorem dX5_measureOf_110 : decode cX5_measureOf 110 = .ok (.getfield 69, 3) := by decide +kernel
theorem dX5_measureOf_113 : decode cX5_measureOf 113 = .ok (.ifCond .ne 7, 3) := by decide +kernel
theorem dX5_measureOf_116 : decode cX5_measureOf 116 = .ok (.iconst 0, 1) := by decide +kernel
theorem dX5_measureOf_117 : decode cX5_measureOf 117 = .ok (.goto 14, 3) := by decide +kernel
theorem dX5_measureOf_120 : decode cX5_measureOf 120 = .ok (.aload_n 0, 1) := by decide +kernel
theorem dX5_measureOf_121 : decode cX5_measureOf 121 = .ok (.getfield 26, 3) := by decide +kernel
theorem dX5_measureOf_124 : decode cX5_measureOf 124 = .ok (.aload_n 0, 1) := by decide +kernel
theorem dX5_measureOf_125 : decode cX5_measureOf 125 = .ok (.getfield 69, 3) := by decide +kernel
theorem dX5_measureOf_128 : decode cX5_measureOf 128 = .ok (.iconst 1, 1) := by decide +kernel
theorem dX5_measureOf_129 : decode cX5_measureOf 129 = .ok (.isub, 1) := by decide +kernel
theorem dX5_measureOf_130 : decode cX5_measureOf 130 = .ok (.iaload, 1) := by decide +kernel
theorem dX5_measureOf_131 : decode cX5_measureOf 131 = .ok (.ireturn, 1) := by decide +kernel
theorem dX5_batchOf_0 : decode cX5_batchOf 0 = .ok (.bipush (-6), 2) := by decide +kernel
theorem dX5_batchOf_2 : decode cX5_batchOf 2 = .ok (.istore_n 2, 1) := by decide +kernel
theorem dX5_batchOf_3 : decode cX5_batchOf 3 = .ok (.iconst 0, 1) := by decide +kernel
theorem dX5_batchOf_4 : decode cX5_batchOf 4 = .ok (.istore_n 3, 1) := by decide +kernel
theorem dX5_batchOf_5 : decode cX5_batchOf 5 = .ok (.iload_n 3, 1) := by decide +kernel
theorem dX5_batchOf_6 : decode cX5_batchOf 6 = .ok (.aload_n 0, 1) := by decide +kernel
theorem dX5_batchOf_7 : decode cX5_batchOf 7 = .ok (.getfield 69, 3) := by decide +kernel
theorem dX5_batchOf_10 : decode cX5_batchOf 10 = .ok (.if_icmp .ge 28, 3) := by decide +kernel
theorem dX5_batchOf_13 : decode cX5_batchOf 13 = .ok (.aload_n 0, 1) := by decide +kernel
theorem dX5_batchOf_14 : decode cX5_batchOf 14 = .ok (.getfield 23, 3) := by decide +kernel
theorem dX5_batchOf_17 : decode cX5_batchOf 17 = .ok (.iload_n 3, 1) := by decide +kernel
theorem dX5_batchOf_18 : decode cX5_batchOf 18 = .ok (.iaload, 1) := by decide +kernel
theorem dX5_batchOf_19 : decode cX5_batchOf 19 = .ok (.iload_n 1, 1) := by decide +kernel
theorem dX5_batchOf_20 : decode cX5_batchOf 20 = .ok (.invokestatic 62, 3) := by decide +kernel
theorem dX5_batchOf_23 : decode cX5_batchOf 23 = .ok (.ifCond .eq 7, 3) := by decide +kernel
theorem dX5_batchOf_26 : decode cX5_batchOf 26 = .ok (.iload_n 3, 1) := by decide +kernel
theorem dX5_batchOf_27 : decode cX5_batchOf 27 = .ok (.goto 4, 3) := by decide +kernel
theorem dX5_batchOf_30 : decode cX5_batchOf 30 = .ok (.iload_n 2, 1) := by decide +kernel
theorem dX5_batchOf_31 : decode cX5_batchOf 31 = .ok (.istore_n 2, 1) := by decide +kernel
theorem dX5_batchOf_32 : decode cX5_batchOf 32 = .ok (.iinc 3 1, 3) := by decide +kernel
theorem dX5_batchOf_35 : decode cX5_batchOf 35 = .ok (.goto (-30), 3) := by decide +kernel
theorem dX5_batchOf_38 : decode cX5_batchOf 38 = .ok (.iload_n 2, 1) := by decide +kernel
theorem dX5_batchOf_39 : decode cX5_batchOf 39 = .ok (.ireturn, 1) := by decide +kernel
theorem dX5_place_0 : decode cX5_place 0 = .ok (.iload_n 0, 1) := by decide +kernel
theorem dX5_place_1 : decode cX5_place 1 = .ok (.iconst 4, 1) := by decide +kernel
theorem dX5_place_2 : decode cX5_place 2 = .ok (.imul, 1) := by decide +kernel
theorem dX5_place_3 : decode cX5_place 3 = .ok (.iload_n 1, 1) := by decide +kernel
theorem dX5_place_4 : decode cX5_place 4 = .ok (.iadd, 1) := by decide +kernel
theorem dX5_place_5 : decode cX5_place 5 = .ok (.sipush 330, 3) := by decide +kernel
theorem dX5_place_8 : decode cX5_place 8 = .ok (.imul, 1) := by decide +kernel
theorem dX5_place_9 : decode cX5_place 9 = .ok (.iload_n 2, 1) := by decide +kernel
theorem dX5_place_10 : decode cX5_place 10 = .ok (.iadd, 1) := by decide +kernel
theorem dX5_place_11 : decode cX5_place 11 = .ok (.ireturn, 1) := by decide +kernel
theorem dX5_full_0 : decode cX5_full 0 = .ok (.iconst 1, 1) := by decide +kernel
theorem dX5_full_1 : decode cX5_full 1 = .ok (.aload_n 0, 1) := by decide +kernel
theorem dX5_full_2 : decode cX5_full 2 = .ok (.invokevirtual 43, 3) := by decide +kernel
theorem dX5_full_5 : decode cX5_full 5 = .ok (.ishl, 1) := by decide +kernel
theorem dX5_full_6 : decode cX5_full 6 = .ok (.iconst 1, 1) := by decide +kernel
theorem dX5_full_7 : decode cX5_full 7 = .ok (.isub, 1) := by decide +kernel
theorem dX5_full_8 : decode cX5_full 8 = .ok (.ireturn, 1) := by decide +kernel
theorem dX5_layBatches_0 : decode cX5_layBatches 0 = .ok (.iconst 0, 1) := by decide +kernel
theorem dX5_layBatches_1 : decode cX5_layBatches 1 = .ok (.istore_n 1, 1) := by decide +kernel
theorem dX5_layBatches_2 : decode cX5_layBatches 2 = .ok (.iload_n 1, 1) := by decide +kernel
theorem dX5_layBatches_3 : decode cX5_layBatches 3 = .ok (.aload_n 0, 1) := by decide +kernel
theorem dX5_layBatches_4 : decode cX5_layBatches 4 = .ok (.invokevirtual 89, 3) := by decide +kernel
theorem dX5_layBatches_7 : decode cX5_layBatches 7 = .ok (.if_icmp .gt 40, 3) := by decide +kernel
theorem dX5_layBatches_10 : decode cX5_layBatches 10 = .ok (.aload_n 0, 1) := by decide +kernel
theorem dX5_layBatches_11 : decode cX5_layBatches 11 = .ok (.getfield 29, 3) := by decide +kernel
theorem dX5_layBatches_14 : decode cX5_layBatches 14 = .ok (.iload_n 1, 1) := by decide +kernel
theorem dX5_layBatches_15 : decode cX5_layBatches 15 = .ok (.aload_n 0, 1) := by decide +kernel
theorem dX5_layBatches_16 : decode cX5_layBatches 16 = .ok (.iload_n 1, 1) := by decide +kernel
theorem dX5_layBatches_17 : decode cX5_layBatches 17 = .ok (.invokevirtual 92, 3) := by decide +kernel
theorem dX5_layBatches_20 : decode cX5_layBatches 20 = .ok (.aload_n 0, 1) := by decide +kernel
theorem dX5_layBatches_21 : decode cX5_layBatches 21 = .ok (.getfield 7, 3) := by decide +kernel
theorem dX5_layBatches_24 : decode cX5_layBatches 24 = .ok (.bipush 6, 2) := by decide +kernel
theorem dX5_layBatches_26 : decode cX5_layBatches 26 = .ok (.iaload, 1) := by decide +kernel
theorem dX5_layBatches_27 : decode cX5_layBatches 27 = .ok (.if_icmp .gt 11, 3) := by decide +kernel
theorem dX5_layBatches_30 : decode cX5_layBatches 30 = .ok (.aload_n 0, 1) := by decide +kernel
theorem dX5_layBatches_31 : decode cX5_layBatches 31 = .ok (.iload_n 1, 1) := by decide +kernel
theorem dX5_layBatches_32 : decode cX5_layBatches 32 = .ok (.invokevirtual 73, 3) := by decide +kernel
theorem dX5_layBatches_35 : decode cX5_layBatches 35 = .ok (.goto 5, 3) := by decide +kernel
theorem dX5_layBatches_38 : decode cX5_layBatches 38 = .ok (.bipush (-6), 2) := by decide +kernel
theorem dX5_layBatches_40 : decode cX5_layBatches 40 = .ok (.iastore, 1) := by decide +kernel
theorem dX5_layBatches_41 : decode cX5_layBatches 41 = .ok (.iinc 1 1, 3) := by decide +kernel
theorem dX5_layBatches_44 : decode cX5_layBatches 44 = .ok (.goto (-42), 3) := by decide +kernel
theorem dX5_layBatches_47 : decode cX5_layBatches 47 = .ok (.return_, 1) := by decide +kernel
theorem dX5_markFrom_0 : decode cX5_markFrom 0 = .ok (.iconst 1, 1) := by decide +kernel
theorem dX5_markFrom_1 : decode cX5_markFrom 1 = .ok (.istore 4, 2) := by decide +kernel
theorem dX5_markFrom_3 : decode cX5_markFrom 3 = .ok (.iload 4, 2) := by decide +kernel
theorem dX5_markFrom_5 : decode cX5_markFrom 5 = .ok (.aload_n 0, 1) := by decide +kernel
theorem dX5_markFrom_6 : decode cX5_markFrom 6 = .ok (.invokevirtual 89, 3) := by decide +kernel
theorem dX5_markFrom_9 : decode cX5_markFrom 9 = .ok (.if_icmp .gt 59, 3) := by decide +kernel
theorem dX5_markFrom_12 : decode cX5_markFrom 12 = .ok (.iload 4, 2) := by decide +kernel
theorem dX5_markFrom_14 : decode cX5_markFrom 14 = .ok (.iload_n 1, 1) := by decide +kernel
theorem dX5_markFrom_15 : decode cX5_markFrom 15 = .ok (.iand, 1) := by decide +kernel
theorem dX5_markFrom_16 : decode cX5_markFrom 16 = .ok (.ifCond .ne 46, 3) := by decide +kernel
theorem dX5_markFrom_19 : decode cX5_markFrom 19 = .ok (.aload_n 0, 1) := by decide +kernel
theorem dX5_markFrom_20 : decode cX5_markFrom 20 = .ok (.getfield 29, 3) := by decide +kernel
theorem dX5_markFrom_23 : decode cX5_markFrom 23 = .ok (.iload 4, 2) := by decide +kernel
theorem dX5_markFrom_25 : decode cX5_markFrom 25 = .ok (.iaload, 1) := by decide +kernel
theorem dX5_markFrom_26 : decode cX5_markFrom 26 = .ok (.ifCond .lt 36, 3) := by decide +kernel
theorem dX5_markFrom_29 : decode cX5_markFrom 29 = .ok (.aload_n 0, 1) := by decide +kernel
theorem dX5_markFrom_30 : decode cX5_markFrom 30 = .ok (.getfield 33, 3) := by decide +kernel
theorem dX5_markFrom_33 : decode cX5_markFrom 33 = .ok (.iload_n 1, 1) := by decide +kernel
theorem dX5_markFrom_34 : decode cX5_markFrom 34 = .ok (.iload 4, 2) := by decide +kernel
theorem dX5_markFrom_36 : decode cX5_markFrom 36 = .ok (.ior, 1) := by decide +kernel
theorem dX5_markFrom_37 : decode cX5_markFrom 37 = .ok (.aload_n 0, 1) := by decide +kernel
theorem dX5_markFrom_38 : decode cX5_markFrom 38 = .ok (.getfield 29, 3) := by decide +kernel
theorem dX5_markFrom_41 : decode cX5_markFrom 41 = .ok (.iload 4, 2) := by decide +kernel
theorem dX5_markFrom_43 : decode cX5_markFrom 43 = .ok (.iaload, 1) := by decide +kernel
theorem dX5_markFrom_44 : decode cX5_markFrom 44 = .ok (.aload_n 0, 1) := by decide +kernel
theorem dX5_markFrom_45 : decode cX5_markFrom 45 = .ok (.iload_n 3, 1) := by decide +kernel
theorem dX5_markFrom_46 : decode cX5_markFrom 46 = .ok (.iload_n 2, 1) := by decide +kernel
theorem dX5_markFrom_47 : decode cX5_markFrom 47 = .ok (.aload_n 0, 1) := by decide +kernel
theorem dX5_markFrom_48 : decode cX5_markFrom 48 = .ok (.getfield 29, 3) := by decide +kernel
theorem dX5_markFrom_51 : decode cX5_markFrom 51 = .ok (.iload 4, 2) := by decide +kernel
theorem dX5_markFrom_53 : decode cX5_markFrom 53 = .ok (.iaload, 1) := by decide +kernel
theorem dX5_markFrom_54 : decode cX5_markFrom 54 = .ok (.invokevirtual 76, 3) := by decide +kernel
theorem dX5_markFrom_57 : decode cX5_markFrom 57 = .ok (.invokestatic 95, 3) := by decide +kernel
theorem dX5_markFrom_60 : decode cX5_markFrom 60 = .ok (.iconst 1, 1) := by decide +kernel
theorem dX5_markFrom_61 : decode cX5_markFrom 61 = .ok (.bastore, 1) := by decide +kernel
theorem dX5_markFrom_62 : decode cX5_markFrom 62 = .ok (.iinc 4 1, 3) := by decide +kernel
theorem dX5_markFrom_65 : decode cX5_markFrom 65 = .ok (.goto (-62), 3) := by decide +kernel
theorem dX5_markFrom_68 : decode cX5_markFrom 68 = .ok (.return_, 1) := by decide +kernel
theorem dX5_markAll_0 : decode cX5_markAll 0 = .ok (.iconst 0, 1) := by decide +kernel
theorem dX5_markAll_1 : decode cX5_markAll 1 = .ok (.istore_n 1, 1) := by decide +kernel
theorem dX5_markAll_2 : decode cX5_markAll 2 = .ok (.iload_n 1, 1) := by decide +kernel
theorem dX5_markAll_3 : decode cX5_markAll 3 = .ok (.aload_n 0, 1) := by decide +kernel
theorem dX5_markAll_4 : decode cX5_markAll 4 = .ok (.invokevirtual 89, 3) := by decide +kernel
theorem dX5_markAll_7 : decode cX5_markAll 7 = .ok (.iconst 1, 1) := by decide +kernel
theorem dX5_markAll_8 : decode cX5_markAll 8 = .ok (.iadd, 1) := by decide +kernel
theorem dX5_markAll_9 : decode cX5_markAll 9 = .ok (.iconst 0, 1) := by decide +kernel
theorem dX5_markAll_10 : decode cX5_markAll 10 = .ok (.iconst 0, 1) := by decide +kernel
theorem dX5_markAll_11 : decode cX5_markAll 11 = .ok (.invokestatic 95, 3) := by decide +kernel
theorem dX5_markAll_14 : decode cX5_markAll 14 = .ok (.if_icmp .ge 16, 3) := by decide +kernel
theorem dX5_markAll_17 : decode cX5_markAll 17 = .ok (.aload_n 0, 1) := by decide +kernel
theorem dX5_markAll_18 : decode cX5_markAll 18 = .ok (.getfield 33, 3) := by decide +kernel
theorem dX5_markAll_21 : decode cX5_markAll 21 = .ok (.iload_n 1, 1) := by decide +kernel
theorem dX5_markAll_22 : decode cX5_markAll 22 = .ok (.iconst 0, 1) := by decide +kernel
theorem dX5_markAll_23 : decode cX5_markAll 23 = .ok (.bastore, 1) := by decide +kernel
theorem dX5_markAll_24 : decode cX5_markAll 24 = .ok (.iinc 1 1, 3) := by decide +kernel
theorem dX5_markAll_27 : decode cX5_markAll 27 = .ok (.goto (-25), 3) := by decide +kernel
theorem dX5_markAll_30 : decode cX5_markAll 30 = .ok (.aload_n 0, 1) := by decide +kernel
theorem dX5_markAll_31 : decode cX5_markAll 31 = .ok (.getfield 33, 3) := by decide +kernel
theorem dX5_markAll_34 : decode cX5_markAll 34 = .ok (.iconst 0, 1) := by decide +kernel
theorem dX5_markAll_35 : decode cX5_markAll 35 = .ok (.iconst 3, 1) := by decide +kernel
theorem dX5_markAll_36 : decode cX5_markAll 36 = .ok (.iconst 0, 1) := by decide +kernel
theorem dX5_markAll_37 : decode cX5_markAll 37 = .ok (.invokestatic 95, 3) := by decide +kernel
theorem dX5_markAll_40 : decode cX5_markAll 40 = .ok (.iconst 1, 1) := by decide +kernel
theorem dX5_markAll_41 : decode cX5_markAll 41 = .ok (.bastore, 1) := by decide +kernel
theorem dX5_markAll_42 : decode cX5_markAll 42 = .ok (.iconst 0, 1) := by decide +kernel
theorem dX5_markAll_43 : decode cX5_markAll 43 = .ok (.istore_n 1, 1) := by decide +kernel
theorem dX5_markAll_44 : decode cX5_markAll 44 = .ok (.iload_n 1, 1) := by decide +kernel
theorem dX5_markAll_45 : decode cX5_markAll 45 = .ok (.aload_n 0, 1) := by decide +kernel
theorem dX5_markAll_46 : decode cX5_markAll 46 = .ok (.invokevirtual 89, 3) := by decide +kernel
theorem dX5_markAll_49 : decode cX5_markAll 49 = .ok (.if_icmp .ge 58, 3) := by decide +kernel
theorem dX5_markAll_52 : decode cX5_markAll 52 = .ok (.iconst 0, 1) := by decide +kernel
theorem dX5_markAll_53 : decode cX5_markAll 53 = .ok (.istore_n 2, 1) := by decide +kernel
theorem dX5_markAll_54 : decode cX5_markAll 54 = .ok (.iload_n 2, 1) := by decide +kernel
theorem dX5_markAll_55 : decode cX5_markAll 55 = .ok (.iconst 3, 1) := by decide +kernel
theorem dX5_markAll_56 : decode cX5_markAll 56 = .ok (.if_icmp .gt 45, 3) := by decide +kernel
theorem dX5_markAll_59 : decode cX5_markAll 59 = .ok (.iconst 0, 1) := by decide +kernel
theorem dX5_markAll_60 : decode cX5_markAll 60 = .ok (.istore_n 3, 1) := by decide +kernel
theorem dX5_markAll_61 : decode cX5_markAll 61 = .ok (.iload_n 3, 1) := by decide +kernel
theorem dX5_markAll_62 : decode cX5_markAll 62 = .ok (.sipush 330, 3) := by decide +kernel
theorem dX5_markAll_65 : decode cX5_markAll 65 = .ok (.if_icmp .ge 30, 3) := by decide +kernel
theorem dX5_markAll_68 : decode cX5_markAll 68 = .ok (.aload_n 0, 1) := by decide +kernel
theorem dX5_markAll_69 : decode cX5_markAll 69 = .ok (.getfield 33, 3) := by decide +kernel
theorem dX5_markAll_72 : decode cX5_markAll 72 = .ok (.iload_n 1, 1) := by decide +kernel
theorem dX5_markAll_73 : decode cX5_markAll 73 = .ok (.iload_n 2, 1) := by decide +kernel
theorem dX5_markAll_74 : decode cX5_markAll 74 = .ok (.iload_n 3, 1) := by decide +kernel
theorem dX5_markAll_75 : decode cX5_markAll 75 = .ok (.invokestatic 95, 3) := by decide +kernel
theorem dX5_markAll_78 : decode cX5_markAll 78 = .ok (.baload, 1) := by decide +kernel
theorem dX5_markAll_79 : decode cX5_markAll 79 = .ok (.ifCond .eq 10, 3) := by decide +kernel
theorem dX5_markAll_82 : decode cX5_markAll 82 = .ok (.aload_n 0, 1) := by decide +kernel
theorem dX5_markAll_83 : decode cX5_markAll 83 = .ok (.iload_n 1, 1) := by decide +kernel
theorem dX5_markAll_84 : decode cX5_markAll 84 = .ok (.iload_n 2, 1) := by decide +kernel
theorem dX5_markAll_85 : decode cX5_markAll 85 = .ok (.iload_n 3, 1) := by decide +kernel
theorem dX5_markAll_86 : decode cX5_markAll 86 = .ok (.invokevirtual 98, 3) := by decide +kernel
theorem dX5_markAll_89 : decode cX5_markAll 89 = .ok (.iinc 3 1, 3) := by decide +kernel
theorem dX5_markAll_92 : decode cX5_markAll 92 = .ok (.goto (-31), 3) := by decide +kernel
theorem dX5_markAll_95 : decode cX5_markAll 95 = .ok (.iinc 2 1, 3) := by decide +kernel
theorem dX5_markAll_98 : decode cX5_markAll 98 = .ok (.goto (-44), 3) := by decide +kernel
theorem dX5_markAll_101 : decode cX5_markAll 101 = .ok (.iinc 1 1, 3) := by decide +kernel
theorem dX5_markAll_104 : decode cX5_markAll 104 = .ok (.goto (-60), 3) := by decide +kernel
theorem dX5_markAll_107 : decode cX5_markAll 107 = .ok (.return_, 1) := by decide +kernel
theorem dX5_both_0 : decode cX5_both 0 = .ok (.iload_n 1, 1) := by decide +kernel
theorem dX5_both_1 : decode cX5_both 1 = .ok (.ifCond .ne 12, 3) := by decide +kernel
theorem dX5_both_4 : decode cX5_both 4 = .ok (.aload_n 0, 1) := by decide +kernel
theorem dX5_both_5 : decode cX5_both 5 = .ok (.iload_n 2, 1) := by decide +kernel
theorem dX5_both_6 : decode cX5_both 6 = .ok (.iload_n 3, 1) := by decide +kernel
theorem dX5_both_7 : decode cX5_both 7 = .ok (.invokevirtual 83, 3) := by decide +kernel
theorem dX5_both_10 : decode cX5_both 10 = .ok (.goto 27, 3) := by decide +kernel
theorem dX5_both_13 : decode cX5_both 13 = .ok (.iload_n 1, 1) := by decide +kernel
theorem dX5_both_14 : decode cX5_both 14 = .ok (.iconst 1, 1) := by decide +kernel
theorem dX5_both_15 : decode cX5_both 15 = .ok (.if_icmp .ne 12, 3) := by decide +kernel
theorem dX5_both_18 : decode cX5_both 18 = .ok (.aload_n 0, 1) := by decide +kernel
theorem dX5_both_19 : decode cX5_both 19 = .ok (.iload_n 2, 1) := by decide +kernel
theorem dX5_both_20 : decode cX5_both 20 = .ok (.iload_n 3, 1) := by decide +kernel
theorem dX5_both_21 : decode cX5_both 21 = .ok (.invokevirtual 86, 3) := by decide +kernel
theorem dX5_both_24 : decode cX5_both 24 = .ok (.goto 13, 3) := by decide +kernel
theorem dX5_both_27 : decode cX5_both 27 = .ok (.iload_n 1, 1) := by decide +kernel
theorem dX5_both_28 : decode cX5_both 28 = .ok (.iconst 2, 1) := by decide +kernel
theorem dX5_both_29 : decode cX5_both 29 = .ok (.if_icmp .ne 7, 3) := by decide +kernel
theorem dX5_both_32 : decode cX5_both 32 = .ok (.iconst 0, 1) := by decide +kernel
theorem dX5_both_33 : decode cX5_both 33 = .ok (.goto 4, 3) := by decide +kernel
theorem dX5_both_36 : decode cX5_both 36 = .ok (.iconst 1, 1) := by decide +kernel
theorem dX5_both_37 : decode cX5_both 37 = .ok (.ireturn, 1) := by decide +kernel
theorem dX5_together_0 : decode cX5_together 0 = .ok (.iload_n 0, 1) := by decide +kernel
theorem dX5_together_1 : decode cX5_together 1 = .ok (.ifCond .ne 16, 3) := by decide +kernel
theorem dX5_together_4 : decode cX5_together 4 = .ok (.iload_n 1, 1) := by decide +kernel
theorem dX5_together_5 : decode cX5_together 5 = .ok (.iload_n 2, 1) := by decide +kernel
theorem dX5_together_6 : decode cX5_together 6 = .ok (.if_icmp .le 7, 3) := by decide +kernel
theorem dX5_together_9 : decode cX5_together 9 = .ok (.iload_n 1, 1) := by decide +kernel
theorem dX5_together_10 : decode cX5_together 10 = .ok (.goto 10, 3) := by decide +kernel
theorem dX5_together_13 : decode cX5_together 13 = .ok (.iload_n 2, 1) := by decide +kernel
theorem dX5_together_14 : decode cX5_together 14 = .ok (.goto 6, 3) := by decide +kernel
theorem dX5_together_17 : decode cX5_together 17 = .ok (.iload_n 1, 1) := by decide +kernel
theorem dX5_together_18 : decode cX5_together 18 = .ok (.iload_n 2, 1) := by decide +kernel
theorem dX5_together_19 : decode cX5_together 19 = .ok (.iadd, 1) := by decide +kernel
theorem dX5_together_20 : decode cX5_together 20 = .ok (.ireturn, 1) := by decide +kernel
theorem dX5_leastFrom_0 : decode cX5_leastFrom 0 = .ok (.iload_n 2, 1) := by decide +kernel
theorem dX5_leastFrom_1 : decode cX5_leastFrom 1 = .ok (.aload_n 0, 1) := by decide +kernel
theorem dX5_leastFrom_2 : decode cX5_leastFrom 2 = .ok (.invokevirtual 89, 3) := by decide +kernel
theorem dX5_leastFrom_5 : decode cX5_leastFrom 5 = .ok (.if_icmp .ne 15, 3) := by decide +kernel
theorem dX5_leastFrom_8 : decode cX5_leastFrom 8 = .ok (.iload_n 1, 1) := by decide +kernel
theorem dX5_leastFrom_9 : decode cX5_leastFrom 9 = .ok (.iconst 2, 1) := by decide +kernel
theorem dX5_leastFrom_10 : decode cX5_leastFrom 10 = .ok (.if_icmp .ne 8, 3) := by decide +kernel
theorem dX5_leastFrom_13 : decode cX5_leastFrom 13 = .ok (.iload 4, 2) := by decide +kernel
theorem dX5_leastFrom_15 : decode cX5_leastFrom 15 = .ok (.goto 4, 3) := by decide +kernel
theorem dX5_leastFrom_18 : decode cX5_leastFrom 18 = .ok (.iconst 0, 1) := by decide +kernel
theorem dX5_leastFrom_19 : decode cX5_leastFrom 19 = .ok (.ireturn, 1) := by decide +kernel
theorem dX5_leastFrom_20 : decode cX5_leastFrom 20 = .ok (.ldc 102, 2) := by decide +kernel
theorem dX5_leastFrom_22 : decode cX5_leastFrom 22 = .ok (.istore 5, 2) := by decide +kernel
theorem dX5_leastFrom_24 : decode cX5_leastFrom 24 = .ok (.iconst 1, 1) := by decide +kernel
theorem dX5_leastFrom_25 : decode cX5_leastFrom 25 = .ok (.istore 6, 2) := by decide +kernel
theorem dX5_leastFrom_27 : decode cX5_leastFrom 27 = .ok (.iload 6, 2) := by decide +kernel
theorem dX5_leastFrom_29 : decode cX5_leastFrom 29 = .ok (.aload_n 0, 1) := by decide +kernel
theorem dX5_leastFrom_30 : decode cX5_leastFrom 30 = .ok (.invokevirtual 89, 3) := by decide +kernel
theorem dX5_leastFrom_33 : decode cX5_leastFrom 33 = .ok (.if_icmp .gt 94, 3) := by decide +kernel
theorem dX5_leastFrom_36 : decode cX5_leastFrom 36 = .ok (.iload 6, 2) := by decide +kernel
theorem dX5_leastFrom_38 : decode cX5_leastFrom 38 = .ok (.iload_n 2, 1) := by decide +kernel
theorem dX5_leastFrom_39 : decode cX5_leastFrom 39 = .ok (.iand, 1) := by decide +kernel
theorem dX5_leastFrom_40 : decode cX5_leastFrom 40 = .ok (.ifCond .ne 81, 3) := by decide +kernel
theorem dX5_leastFrom_43 : decode cX5_leastFrom 43 = .ok (.aload_n 0, 1) := by decide +kernel
theorem dX5_leastFrom_44 : decode cX5_leastFrom 44 = .ok (.getfield 29, 3) := by decide +kernel
theorem dX5_leastFrom_47 : decode cX5_leastFrom 47 = .ok (.iload 6, 2) := by decide +kernel
theorem dX5_leastFrom_49 : decode cX5_leastFrom 49 = .ok (.iaload, 1) := by decide +kernel
theorem dX5_leastFrom_50 : decode cX5_leastFrom 50 = .ok (.ifCond .lt 71, 3) := by decide +kernel
theorem dX5_leastFrom_53 : decode cX5_leastFrom 53 = .ok (.aload_n 0, 1) := by decide +kernel
theorem dX5_leastFrom_54 : decode cX5_leastFrom 54 = .ok (.iload 4, 2) := by decide +kernel
theorem dX5_leastFrom_56 : decode cX5_leastFrom 56 = .ok (.iload_n 3, 1) := by decide +kernel
theorem dX5_leastFrom_57 : decode cX5_leastFrom 57 = .ok (.aload_n 0, 1) := by decide +kernel
theorem dX5_leastFrom_58 : decode cX5_leastFrom 58 = .ok (.getfield 29, 3) := by decide +kernel
theorem dX5_leastFrom_61 : decode cX5_leastFrom 61 = .ok (.iload 6, 2) := by decide +kernel
theorem dX5_leastFrom_63 : decode cX5_leastFrom 63 = .ok (.iaload, 1) := by decide +kernel
theorem dX5_leastFrom_64 : decode cX5_leastFrom 64 = .ok (.invokevirtual 76, 3) := by decide +kernel
theorem dX5_leastFrom_67 : decode cX5_leastFrom 67 = .ok (.istore 7, 2) := by decide +kernel
theorem dX5_leastFrom_69 : decode cX5_leastFrom 69 = .ok (.iload_n 1, 1) := by decide +kernel
theorem dX5_leastFrom_70 : decode cX5_leastFrom 70 = .ok (.aload_n 0, 1) := by decide +kernel
theorem dX5_leastFrom_71 : decode cX5_leastFrom 71 = .ok (.iload_n 1, 1) := by decide +kernel
theorem dX5_leastFrom_72 : decode cX5_leastFrom 72 = .ok (.iload 6, 2) := by decide +kernel
theorem dX5_leastFrom_74 : decode cX5_leastFrom 74 = .ok (.iload 7, 2) := by decide +kernel
theorem dX5_leastFrom_76 : decode cX5_leastFrom 76 = .ok (.invokevirtual 103, 3) := by decide +kernel
theorem dX5_leastFrom_79 : decode cX5_leastFrom 79 = .ok (.aload_n 0, 1) := by decide +kernel
theorem dX5_leastFrom_80 : decode cX5_leastFrom 80 = .ok (.getfield 36, 3) := by decide +kernel
theorem dX5_leastFrom_83 : decode cX5_leastFrom 83 = .ok (.iload_n 2, 1) := by decide +kernel
theorem dX5_leastFrom_84 : decode cX5_leastFrom 84 = .ok (.iload 6, 2) := by decide +kernel
theorem dX5_leastFrom_86 : decode cX5_leastFrom 86 = .ok (.ior, 1) := by decide +kernel
theorem dX5_leastFrom_87 : decode cX5_leastFrom 87 = .ok (.aload_n 0, 1) := by decide +kernel
theorem dX5_leastFrom_88 : decode cX5_leastFrom 88 = .ok (.getfield 29, 3) := by decide +kernel
theorem dX5_leastFrom_91 : decode cX5_leastFrom 91 = .ok (.iload 6, 2) := by decide +kernel
theorem dX5_leastFrom_93 : decode cX5_leastFrom 93 = .ok (.iaload, 1) := by decide +kernel
theorem dX5_leastFrom_94 : decode cX5_leastFrom 94 = .ok (.iload 7, 2) := by decide +kernel
theorem dX5_leastFrom_96 : decode cX5_leastFrom 96 = .ok (.invokestatic 95, 3) := by decide +kernel
theorem dX5_leastFrom_99 : decode cX5_leastFrom 99 = .ok (.iaload, 1) := by decide +kernel
theorem dX5_leastFrom_100 : decode cX5_leastFrom 100 = .ok (.invokestatic 106, 3) := by decide +kernel
theorem dX5_leastFrom_103 : decode cX5_leastFrom 103 = .ok (.istore 8, 2) := by decide +kernel
theorem dX5_leastFrom_105 : decode cX5_leastFrom 105 = .ok (.iload 8, 2) := by decide +kernel
theorem dX5_leastFrom_107 : decode cX5_leastFrom 107 = .ok (.iload 5, 2) := by decide +kernel
theorem dX5_leastFrom_109 : decode cX5_leastFrom 109 = .ok (.if_icmp .ge 8, 3) := by decide +kernel
theorem dX5_leastFrom_112 : decode cX5_leastFrom 112 = .ok (.iload 8, 2) := by decide +kernel
theorem dX5_leastFrom_114 : decode cX5_leastFrom 114 = .ok (.goto 5, 3) := by decide +kernel
theorem dX5_leastFrom_117 : decode cX5_leastFrom 117 = .ok (.iload 5, 2) := by decide +kernel
theorem dX5_leastFrom_119 : decode cX5_leastFrom 119 = .ok (.istore 5, 2) := by decide +kernel
theorem dX5_leastFrom_121 : decode cX5_leastFrom 121 = .ok (.iinc 6 1, 3) := by decide +kernel
theorem dX5_leastFrom_124 : decode cX5_leastFrom 124 = .ok (.goto (-97), 3) := by decide +kernel
theorem dX5_leastFrom_127 : decode cX5_leastFrom 127 = .ok (.iload 5, 2) := by decide +kernel
theorem dX5_leastFrom_129 : decode cX5_leastFrom 129 = .ok (.ireturn, 1) := by decide +kernel
theorem dX5_layLeast_0 : decode cX5_layLeast 0 = .ok (.aload_n 0, 1) := by decide +kernel
theorem dX5_layLeast_1 : decode cX5_layLeast 1 = .ok (.invokevirtual 89, 3) := by decide +kernel
theorem dX5_layLeast_4 : decode cX5_layLeast 4 = .ok (.istore_n 2, 1) := by decide +kernel
theorem dX5_layLeast_5 : decode cX5_layLeast 5 = .ok (.iload_n 2, 1) := by decide +kernel
theorem dX5_layLeast_6 : decode cX5_layLeast 6 = .ok (.ifCond .lt 75, 3) := by decide +kernel
theorem dX5_layLeast_9 : decode cX5_layLeast 9 = .ok (.iconst 0, 1) := by decide +kernel
theorem dX5_layLeast_10 : decode cX5_layLeast 10 = .ok (.istore_n 3, 1) := by decide +kernel
theorem dX5_layLeast_11 : decode cX5_layLeast 11 = .ok (.iload_n 3, 1) := by decide +kernel
theorem dX5_layLeast_12 : decode cX5_layLeast 12 = .ok (.iconst 3, 1) := by decide +kernel
theorem dX5_layLeast_13 : decode cX5_layLeast 13 = .ok (.if_icmp .gt 62, 3) := by decide +kernel
theorem dX5_layLeast_16 : decode cX5_layLeast 16 = .ok (.iconst 0, 1) := by decide +kernel
theorem dX5_layLeast_17 : decode cX5_layLeast 17 = .ok (.istore 4, 2) := by decide +kernel
theorem dX5_layLeast_19 : decode cX5_layLeast 19 = .ok (.iload 4, 2) := by decide +kernel
theorem dX5_layLeast_21 : decode cX5_layLeast 21 = .ok (.sipush 330, 3) := by decide +kernel
theorem dX5_layLeast_24 : decode cX5_layLeast 24 = .ok (.if_icmp .ge 45, 3) := by decide +kernel
theorem dX5_layLeast_27 : decode cX5_layLeast 27 = .ok (.aload_n 0, 1) := by decide +kernel
theorem dX5_layLeast_28 : decode cX5_layLeast 28 = .ok (.getfield 33, 3) := by decide +kernel
theorem dX5_layLeast_31 : decode cX5_layLeast 31 = .ok (.iload_n 2, 1) := by decide +kernel
theorem dX5_layLeast_32 : decode cX5_layLeast 32 = .ok (.iload_n 3, 1) := by decide +kernel
theorem dX5_layLeast_33 : decode cX5_layLeast 33 = .ok (.iload 4, 2) := by decide +kernel
theorem dX5_layLeast_35 : decode cX5_layLeast 35 = .ok (.invokestatic 95, 3) := by decide +kernel
theorem dX5_layLeast_38 : decode cX5_layLeast 38 = .ok (.baload, 1) := by decide +kernel
theorem dX5_layLeast_39 : decode cX5_layLeast 39 = .ok (.ifCond .eq 24, 3) := by decide +kernel
theorem dX5_layLeast_42 : decode cX5_layLeast 42 = .ok (.aload_n 0, 1) := by decide +kernel
theorem dX5_layLeast_43 : decode cX5_layLeast 43 = .ok (.getfield 36, 3) := by decide +kernel
theorem dX5_layLeast_46 : decode cX5_layLeast 46 = .ok (.iload_n 2, 1) := by decide +kernel
theorem dX5_layLeast_47 : decode cX5_layLeast 47 = .ok (.iload_n 3, 1) := by decide +kernel
theorem dX5_layLeast_48 : decode cX5_layLeast 48 = .ok (.iload 4, 2) := by decide +kernel
theorem dX5_layLeast_50 : decode cX5_layLeast 50 = .ok (.invokestatic 95, 3) := by decide +kernel
theorem dX5_layLeast_53 : decode cX5_layLeast 53 = .ok (.aload_n 0, 1) := by decide +kernel
theorem dX5_layLeast_54 : decode cX5_layLeast 54 = .ok (.iload_n 1, 1) := by decide +kernel
theorem dX5_layLeast_55 : decode cX5_layLeast 55 = .ok (.iload_n 2, 1) := by decide +kernel
theorem dX5_layLeast_56 : decode cX5_layLeast 56 = .ok (.iload_n 3, 1) := by decide +kernel
theorem dX5_layLeast_57 : decode cX5_layLeast 57 = .ok (.iload 4, 2) := by decide +kernel
theorem dX5_layLeast_59 : decode cX5_layLeast 59 = .ok (.invokevirtual 109, 3) := by decide +kernel
theorem dX5_layLeast_62 : decode cX5_layLeast 62 = .ok (.iastore, 1) := by decide +kernel
theorem dX5_layLeast_63 : decode cX5_layLeast 63 = .ok (.iinc 4 1, 3) := by decide +kernel
theorem dX5_layLeast_66 : decode cX5_layLeast 66 = .ok (.goto (-47), 3) := by decide +kernel
theorem dX5_layLeast_69 : decode cX5_layLeast 69 = .ok (.iinc 3 1, 3) := by decide +kernel
theorem dX5_layLeast_72 : decode cX5_layLeast 72 = .ok (.goto (-61), 3) := by decide +kernel
theorem dX5_layLeast_75 : decode cX5_layLeast 75 = .ok (.iinc 2 (-1), 3) := by decide +kernel
theorem dX5_layLeast_78 : decode cX5_layLeast 78 = .ok (.goto (-73), 3) := by decide +kernel
theorem dX5_layLeast_81 : decode cX5_layLeast 81 = .ok (.aload_n 0, 1) := by decide +kernel
theorem dX5_layLeast_82 : decode cX5_layLeast 82 = .ok (.getfield 36, 3) := by decide +kernel
theorem dX5_layLeast_85 : decode cX5_layLeast 85 = .ok (.iconst 0, 1) := by decide +kernel
theorem dX5_layLeast_86 : decode cX5_layLeast 86 = .ok (.iconst 3, 1) := by decide +kernel
theorem dX5_layLeast_87 : decode cX5_layLeast 87 = .ok (.iconst 0, 1) := by decide +kernel
theorem dX5_layLeast_88 : decode cX5_layLeast 88 = .ok (.invokestatic 95, 3) := by decide +kernel
theorem dX5_layLeast_91 : decode cX5_layLeast 91 = .ok (.iaload, 1) := by decide +kernel
theorem dX5_layLeast_92 : decode cX5_layLeast 92 = .ok (.ireturn, 1) := by decide +kernel
theorem dX5_bestOf_0 : decode cX5_bestOf 0 = .ok (.aload_n 0, 1) := by decide +kernel
theorem dX5_bestOf_1 : decode cX5_bestOf 1 = .ok (.invokevirtual 113, 3) := by decide +kernel
theorem dX5_bestOf_4 : decode cX5_bestOf 4 = .ok (.aload_n 0, 1) := by decide +kernel
theorem dX5_bestOf_5 : decode cX5_bestOf 5 = .ok (.invokevirtual 116, 3) := by decide +kernel
theorem dX5_bestOf_8 : decode cX5_bestOf 8 = .ok (.aload_n 0, 1) := by decide +kernel
theorem dX5_bestOf_9 : decode cX5_bestOf 9 = .ok (.iload_n 1, 1) := by decide +kernel
theorem dX5_bestOf_10 : decode cX5_bestOf 10 = .ok (.invokevirtual 119, 3) := by decide +kernel
theorem dX5_bestOf_13 : decode cX5_bestOf 13 = .ok (.ireturn, 1) := by decide +kernel
theorem dX5_best_0 : decode cX5_best 0 = .ok (.iload_n 1, 1) := by decide +kernel
theorem dX5_best_1 : decode cX5_best 1 = .ok (.invokestatic 122, 3) := by decide +kernel
theorem dX5_best_4 : decode cX5_best 4 = .ok (.ifCond .eq 11, 3) := by decide +kernel
theorem dX5_best_7 : decode cX5_best 7 = .ok (.aload_n 0, 1) := by decide +kernel
theorem dX5_best_8 : decode cX5_best 8 = .ok (.iload_n 1, 1) := by decide +kernel
theorem dX5_best_9 : decode cX5_best 9 = .ok (.invokevirtual 125, 3) := by decide +kernel
theorem dX5_best_12 : decode cX5_best 12 = .ok (.goto 5, 3) := by decide +kernel
theorem dX5_best_15 : decode cX5_best 15 = .ok (.bipush (-2), 2) := by decide +kernel
theorem dX5_best_17 : decode cX5_best 17 = .ok (.ireturn, 1) := by decide +kernel
theorem dX5_layBest_0 : decode cX5_layBest 0 = .ok (.aload_n 0, 1) := by decide +kernel
theorem dX5_layBest_1 : decode cX5_layBest 1 = .ok (.iload_n 1, 1) := by decide +kernel
theorem dX5_layBest_2 : decode cX5_layBest 2 = .ok (.invokevirtual 125, 3) := by decide +kernel
theorem dX5_layBest_5 : decode cX5_layBest 5 = .ok (.istore_n 2, 1) := by decide +kernel
theorem dX5_layBest_6 : decode cX5_layBest 6 = .ok (.aload_n 0, 1) := by decide +kernel
theorem dX5_layBest_7 : decode cX5_layBest 7 = .ok (.iconst 0, 1) := by decide +kernel
theorem dX5_layBest_8 : decode cX5_layBest 8 = .ok (.putfield 69, 3) := by decide +kernel
theorem dX5_layBest_11 : decode cX5_layBest 11 = .ok (.iconst 0, 1) := by decide +kernel
theorem dX5_layBest_12 : decode cX5_layBest 12 = .ok (.istore_n 3, 1) := by decide +kernel
theorem dX5_layBest_13 : decode cX5_layBest 13 = .ok (.iconst 3, 1) := by decide +kernel
theorem dX5_layBest_14 : decode cX5_layBest 14 = .ok (.istore 4, 2) := by decide +kernel
theorem dX5_layBest_16 : decode cX5_layBest 16 = .ok (.iconst 0, 1) := by decide +kernel
theorem dX5_layBest_17 : decode cX5_layBest 17 = .ok (.istore 5, 2) := by decide +kernel
theorem dX5_layBest_19 : decode cX5_layBest 19 = .ok (.iload_n 3, 1) := by decide +kernel
theorem dX5_layBest_20 : decode cX5_layBest 20 = .ok (.aload_n 0, 1) := by decide +kernel
theorem dX5_layBest_21 : decode cX5_layBest 21 = .ok (.invokevirtual 89, 3) := by decide +kernel
theorem dX5_layBest_24 : decode cX5_layBest 24 = .ok (.if_icmp .eq 102, 3) := by decide +kernel
theorem dX5_layBest_27 : decode cX5_layBest 27 = .ok (.iconst 1, 1) := by decide +kernel
theorem dX5_layBest_28 : decode cX5_layBest 28 = .ok (.istore 6, 2) := by decide +kernel
theorem dX5_layBest_30 : decode cX5_layBest 30 = .ok (.aload_n 0, 1) := by decide +kernel
theorem dX5_layBest_31 : decode cX5_layBest 31 = .ok (.iload_n 1, 1) := by decide +kernel
theorem dX5_layBest_32 : decode cX5_layBest 32 = .ok (.iload_n 3, 1) := by decide +kernel
theorem dX5_layBest_33 : decode cX5_layBest 33 = .ok (.iload 4, 2) := by decide +kernel
theorem dX5_layBest_35 : decode cX5_layBest 35 = .ok (.iload 5, 2) := by decide +kernel
theorem dX5_layBest_37 : decode cX5_layBest 37 = .ok (.iload 6, 2) := by decide +kernel
theorem dX5_layBest_39 : decode cX5_layBest 39 = .ok (.iload_n 2, 1) := by decide +kernel
theorem dX5_layBest_40 : decode cX5_layBest 40 = .ok (.invokevirtual 128, 3) := by decide +kernel
theorem dX5_layBest_43 : decode cX5_layBest 43 = .ok (.ifCond .ne 9, 3) := by decide +kernel
theorem dX5_layBest_46 : decode cX5_layBest 46 = .ok (.iinc 6 1, 3) := by decide +kernel
theorem dX5_layBest_49 : decode cX5_layBest 49 = .ok (.goto (-19), 3) := by decide +kernel
theorem dX5_layBest_52 : decode cX5_layBest 52 = .ok (.aload_n 0, 1) := by decide +kernel
theorem dX5_layBest_53 : decode cX5_layBest 53 = .ok (.getfield 29, 3) := by decide +kernel
theorem dX5_layBest_56 : decode cX5_layBest 56 = .ok (.iload 6, 2) := by decide +kernel
theorem dX5_layBest_58 : decode cX5_layBest 58 = .ok (.iaload, 1) := by decide +kernel
theorem dX5_layBest_59 : decode cX5_layBest 59 = .ok (.istore 7, 2) := by decide +kernel
theorem dX5_layBest_61 : decode cX5_layBest 61 = .ok (.aload_n 0, 1) := by decide +kernel
theorem dX5_layBest_62 : decode cX5_layBest 62 = .ok (.iload 5, 2) := by decide +kernel
theorem dX5_layBest_64 : decode cX5_layBest 64 = .ok (.iload 4, 2) := by decide +kernel
theorem dX5_layBest_66 : decode cX5_layBest 66 = .ok (.iload 7, 2) := by decide +kernel
theorem dX5_layBest_68 : decode cX5_layBest 68 = .ok (.invokevirtual 76, 3) := by decide +kernel
theorem dX5_layBest_71 : decode cX5_layBest 71 = .ok (.istore 5, 2) := by decide +kernel
theorem dX5_layBest_73 : decode cX5_layBest 73 = .ok (.iload_n 2, 1) := by decide +kernel
theorem dX5_layBest_74 : decode cX5_layBest 74 = .ok (.iload_n 1, 1) := by decide +kernel
theorem dX5_layBest_75 : decode cX5_layBest 75 = .ok (.ifCond .ne 7, 3) := by decide +kernel
theorem dX5_layBest_78 : decode cX5_layBest 78 = .ok (.iconst 0, 1) := by decide +kernel
theorem dX5_layBest_79 : decode cX5_layBest 79 = .ok (.goto 12, 3) := by decide +kernel
theorem dX5_layBest_82 : decode cX5_layBest 82 = .ok (.aload_n 0, 1) := by decide +kernel
theorem dX5_layBest_83 : decode cX5_layBest 83 = .ok (.iload_n 1, 1) := by decide +kernel
theorem dX5_layBest_84 : decode cX5_layBest 84 = .ok (.iload 6, 2) := by decide +kernel
theorem dX5_layBest_86 : decode cX5_layBest 86 = .ok (.iload 5, 2) := by decide +kernel
theorem dX5_layBest_88 : decode cX5_layBest 88 = .ok (.invokevirtual 103, 3) := by decide +kernel
theorem dX5_layBest_91 : decode cX5_layBest 91 = .ok (.isub, 1) := by decide +kernel
theorem dX5_layBest_92 : decode cX5_layBest 92 = .ok (.istore_n 2, 1) := by decide +kernel
theorem dX5_layBest_93 : decode cX5_layBest 93 = .ok (.iload 7, 2) := by decide +kernel
theorem dX5_layBest_95 : decode cX5_layBest 95 = .ok (.istore 4, 2) := by decide +kernel
theorem dX5_layBest_97 : decode cX5_layBest 97 = .ok (.iload_n 3, 1) := by decide +kernel
theorem dX5_layBest_98 : decode cX5_layBest 98 = .ok (.iload 6, 2) := by decide +kernel
theorem dX5_layBest_100 : decode cX5_layBest 100 = .ok (.ior, 1) := by decide +kernel
theorem dX5_layBest_101 : decode cX5_layBest 101 = .ok (.istore_n 3, 1) := by decide +kernel
theorem dX5_layBest_102 : decode cX5_layBest 102 = .ok (.aload_n 0, 1) := by decide +kernel
theorem dX5_layBest_103 : decode cX5_layBest 103 = .ok (.getfield 23, 3) := by decide +kernel
theorem dX5_layBest_106 : decode cX5_layBest 106 = .ok (.aload_n 0, 1) := by decide +kernel
theorem dX5_layBest_107 : decode cX5_layBest 107 = .ok (.getfield 69, 3) := by decide +kernel
theorem dX5_layBest_110 : decode cX5_layBest 110 = .ok (.iload 6, 2) := by decide +kernel
theorem dX5_layBest_112 : decode cX5_layBest 112 = .ok (.iastore, 1) := by decide +kernel
theorem dX5_layBest_113 : decode cX5_layBest 113 = .ok (.aload_n 0, 1) := by decide +kernel
theorem dX5_layBest_114 : decode cX5_layBest 114 = .ok (.dup, 1) := by decide +kernel
theorem dX5_layBest_115 : decode cX5_layBest 115 = .ok (.getfield 69, 3) := by decide +kernel
theorem dX5_layBest_118 : decode cX5_layBest 118 = .ok (.iconst 1, 1) := by decide +kernel
theorem dX5_layBest_119 : decode cX5_layBest 119 = .ok (.iadd, 1) := by decide +kernel
theorem dX5_layBest_120 : decode cX5_layBest 120 = .ok (.putfield 69, 3) := by decide +kernel
theorem dX5_layBest_123 : decode cX5_layBest 123 = .ok (.goto (-104), 3) := by decide +kernel
theorem dX5_layBest_126 : decode cX5_layBest 126 = .ok (.return_, 1) := by decide +kernel
theorem dX5_isWithin_0 : decode cX5_isWithin 0 = .ok (.iload 5, 2) := by decide +kernel
theorem dX5_isWithin_2 : decode cX5_isWithin 2 = .ok (.iload_n 2, 1) := by decide +kernel
theorem dX5_isWithin_3 : decode cX5_isWithin 3 = .ok (.iand, 1) := by decide +kernel
theorem dX5_isWithin_4 : decode cX5_isWithin 4 = .ok (.ifCond .ne 13, 3) := by decide +kernel
theorem dX5_isWithin_7 : decode cX5_isWithin 7 = .ok (.aload_n 0, 1) := by decide +kernel
theorem dX5_isWithin_8 : decode cX5_isWithin 8 = .ok (.getfield 29, 3) := by decide +kernel
theorem dX5_isWithin_11 : decode cX5_isWithin 11 = .ok (.iload 5, 2) := by decide +kernel
theorem dX5_isWithin_13 : decode cX5_isWithin 13 = .ok (.iaload, 1) := by decide +kernel
theorem dX5_isWithin_14 : decode cX5_isWithin 14 = .ok (.ifCond .ge 5, 3) := by decide +kernel
theorem dX5_isWithin_17 : decode cX5_isWithin 17 = .ok (.iconst 0, 1) := by decide +kernel
theorem dX5_isWithin_18 : decode cX5_isWithin 18 = .ok (.ireturn, 1) := by decide +kernel
theorem dX5_isWithin_19 : decode cX5_isWithin 19 = .ok (.aload_n 0, 1) := by decide +kernel
theorem dX5_isWithin_20 : decode cX5_isWithin 20 = .ok (.iload 4, 2) := by decide +kernel
theorem dX5_isWithin_22 : decode cX5_isWithin 22 = .ok (.iload_n 3, 1) := by decide +kernel
theorem dX5_isWithin_23 : decode cX5_isWithin 23 = .ok (.aload_n 0, 1) := by decide +kernel
theorem dX5_isWithin_24 : decode cX5_isWithin 24 = .ok (.getfield 29, 3) := by decide +kernel
theorem dX5_isWithin_27 : decode cX5_isWithin 27 = .ok (.iload 5, 2) := by decide +kernel
theorem dX5_isWithin_29 : decode cX5_isWithin 29 = .ok (.iaload, 1) := by decide +kernel
theorem dX5_isWithin_30 : decode cX5_isWithin 30 = .ok (.invokevirtual 76, 3) := by decide +kernel
theorem dX5_isWithin_33 : decode cX5_isWithin 33 = .ok (.istore 7, 2) := by decide +kernel
theorem dX5_isWithin_35 : decode cX5_isWithin 35 = .ok (.iload_n 1, 1) := by decide +kernel
theorem dX5_isWithin_36 : decode cX5_isWithin 36 = .ok (.aload_n 0, 1) := by decide +kernel
theorem dX5_isWithin_37 : decode cX5_isWithin 37 = .ok (.iload_n 1, 1) := by decide +kernel
theorem dX5_isWithin_38 : decode cX5_isWithin 38 = .ok (.iload 5, 2) := by decide +kernel
theorem dX5_isWithin_40 : decode cX5_isWithin 40 = .ok (.iload 7, 2) := by decide +kernel
theorem dX5_isWithin_42 : decode cX5_isWithin 42 = .ok (.invokevirtual 103, 3) := by decide +kernel
theorem dX5_isWithin_45 : decode cX5_isWithin 45 = .ok (.aload_n 0, 1) := by decide +kernel
theorem dX5_isWithin_46 : decode cX5_isWithin 46 = .ok (.getfield 36, 3) := by decide +kernel
theorem dX5_isWithin_49 : decode cX5_isWithin 49 = .ok (.iload_n 2, 1) := by decide +kernel
theorem dX5_isWithin_50 : decode cX5_isWithin 50 = .ok (.iload 5, 2) := by decide +kernel
theorem dX5_isWithin_52 : decode cX5_isWithin 52 = .ok (.ior, 1) := by decide +kernel
theorem dX5_isWithin_53 : decode cX5_isWithin 53 = .ok (.aload_n 0, 1) := by decide +kernel
theorem dX5_isWithin_54 : decode cX5_isWithin 54 = .ok (.getfield 29, 3) := by decide +kernel
theorem dX5_isWithin_57 : decode cX5_isWithin 57 = .ok (.iload 5, 2) := by decide +kernel
theorem dX5_isWithin_59 : decode cX5_isWithin 59 = .ok (.iaload, 1) := by decide +kernel
theorem dX5_isWithin_60 : decode cX5_isWithin 60 = .ok (.iload 7, 2) := by decide +kernel
theorem dX5_isWithin_62 : decode cX5_isWithin 62 = .ok (.invokestatic 95, 3) := by decide +kernel
theorem dX5_isWithin_65 : decode cX5_isWithin 65 = .ok (.iaload, 1) := by decide +kernel
theorem dX5_isWithin_66 : decode cX5_isWithin 66 = .ok (.invokestatic 106, 3) := by decide +kernel
theorem dX5_isWithin_69 : decode cX5_isWithin 69 = .ok (.iload 6, 2) := by decide +kernel
theorem dX5_isWithin_71 : decode cX5_isWithin 71 = .ok (.if_icmp .gt 7, 3) := by decide +kernel
theorem dX5_isWithin_74 : decode cX5_isWithin 74 = .ok (.iconst 1, 1) := by decide +kernel
theorem dX5_isWithin_75 : decode cX5_isWithin 75 = .ok (.goto 4, 3) := by decide +kernel
theorem dX5_isWithin_78 : decode cX5_isWithin 78 = .ok (.iconst 0, 1) := by decide +kernel
theorem dX5_isWithin_79 : decode cX5_isWithin 79 = .ok (.ireturn, 1) := by decide +kernel
theorem dX5_told_0 : decode cX5_told 0 = .ok (.iload_n 1, 1) := by decide +kernel
theorem dX5_told_1 : decode cX5_told 1 = .ok (.iconst (-1), 1) := by decide +kernel
theorem dX5_told_2 : decode cX5_told 2 = .ok (.if_icmp .ne 10, 3) := by decide +kernel
theorem dX5_told_5 : decode cX5_told 5 = .ok (.aload_n 0, 1) := by decide +kernel
theorem dX5_told_6 : decode cX5_told 6 = .ok (.getfield 69, 3) := by decide +kernel
theorem dX5_told_9 : decode cX5_told 9 = .ok (.goto 22, 3) := by decide +kernel
theorem dX5_told_12 : decode cX5_told 12 = .ok (.iload_n 1, 1) := by decide +kernel
theorem dX5_told_13 : decode cX5_told 13 = .ok (.aload_n 0, 1) := by decide +kernel
theorem dX5_told_14 : decode cX5_told 14 = .ok (.getfield 69, 3) := by decide +kernel
theorem dX5_told_17 : decode cX5_told 17 = .ok (.if_icmp .ge 12, 3) := by decide +kernel
theorem dX5_told_20 : decode cX5_told 20 = .ok (.aload_n 0, 1) := by decide +kernel
theorem dX5_told_21 : decode cX5_told 21 = .ok (.getfield 23, 3) := by decide +kernel
theorem dX5_told_24 : decode cX5_told 24 = .ok (.iload_n 1, 1) := by decide +kernel
theorem dX5_told_25 : decode cX5_told 25 = .ok (.iaload, 1) := by decide +kernel
theorem dX5_told_26 : decode cX5_told 26 = .ok (.goto 5, 3) := by decide +kernel
theorem dX5_told_29 : decode cX5_told 29 = .ok (.bipush (-6), 2) := by decide +kernel
theorem dX5_told_31 : decode cX5_told 31 = .ok (.ireturn, 1) := by decide +kernel
theorem dX5_plan_0 : decode cX5_plan 0 = .ok (.iload_n 1, 1) := by decide +kernel
theorem dX5_plan_1 : decode cX5_plan 1 = .ok (.invokestatic 122, 3) := by decide +kernel
theorem dX5_plan_4 : decode cX5_plan 4 = .ok (.ifCond .eq 8, 3) := by decide +kernel
theorem dX5_plan_7 : decode cX5_plan 7 = .ok (.iload_n 2, 1) := by decide +kernel
theorem dX5_plan_8 : decode cX5_plan 8 = .ok (.iconst (-1), 1) := by decide +kernel
theorem dX5_plan_9 : decode cX5_plan 9 = .ok (.if_icmp .ge 6, 3) := by decide +kernel
theorem dX5_plan_12 : decode cX5_plan 12 = .ok (.bipush (-2), 2) := by decide +kernel
theorem dX5_plan_14 : decode cX5_plan 14 = .ok (.ireturn, 1) := by decide +kernel
theorem dX5_plan_15 : decode cX5_plan 15 = .ok (.aload_n 0, 1) := by decide +kernel
theorem dX5_plan_16 : decode cX5_plan 16 = .ok (.iload_n 1, 1) := by decide +kernel
theorem dX5_plan_17 : decode cX5_plan 17 = .ok (.invokevirtual 132, 3) := by decide +kernel
theorem dX5_plan_20 : decode cX5_plan 20 = .ok (.aload_n 0, 1) := by decide +kernel
theorem dX5_plan_21 : decode cX5_plan 21 = .ok (.iload_n 2, 1) := by decide +kernel
theorem dX5_plan_22 : decode cX5_plan 22 = .ok (.invokevirtual 136, 3) := by decide +kernel
theorem dX5_plan_25 : decode cX5_plan 25 = .ok (.ireturn, 1) := by decide +kernel
theorem dX5_end_0 : decode cX5_end 0 = .ok (.aload_n 0, 1) := by decide +kernel
theorem dX5_end_1 : decode cX5_end 1 = .ok (.iload_n 1, 1) := by decide +kernel
theorem dX5_end_2 : decode cX5_end 2 = .ok (.invokevirtual 51, 3) := by decide +kernel
theorem dX5_end_5 : decode cX5_end 5 = .ok (.ifCond .ne 5, 3) := by decide +kernel
theorem dX5_end_8 : decode cX5_end 8 = .ok (.iconst (-1), 1) := by decide +kernel
theorem dX5_end_9 : decode cX5_end 9 = .ok (.ireturn, 1) := by decide +kernel
theorem dX5_end_10 : decode cX5_end 10 = .ok (.iload_n 2, 1) := by decide +kernel
theorem dX5_end_11 : decode cX5_end 11 = .ok (.invokestatic 122, 3) := by decide +kernel
theorem dX5_end_14 : decode cX5_end 14 = .ok (.ifCond .ne 6, 3) := by decide +kernel
theorem dX5_end_17 : decode cX5_end 17 = .ok (.bipush (-2), 2) := by decide +kernel
theorem dX5_end_19 : decode cX5_end 19 = .ok (.ireturn, 1) := by decide +kernel
theorem dX5_end_20 : decode cX5_end 20 = .ok (.aload_n 0, 1) := by decide +kernel
theorem dX5_end_21 : decode cX5_end 21 = .ok (.iload_n 2, 1) := by decide +kernel
theorem dX5_end_22 : decode cX5_end 22 = .ok (.invokevirtual 132, 3) := by decide +kernel
theorem dX5_end_25 : decode cX5_end 25 = .ok (.aload_n 0, 1) := by decide +kernel
theorem dX5_end_26 : decode cX5_end 26 = .ok (.invokevirtual 80, 3) := by decide +kernel
theorem dX5_end_29 : decode cX5_end 29 = .ok (.aload_n 0, 1) := by decide +kernel
theorem dX5_end_30 : decode cX5_end 30 = .ok (.getfield 26, 3) := by decide +kernel
theorem dX5_end_33 : decode cX5_end 33 = .ok (.aload_n 0, 1) := by decide +kernel
theorem dX5_end_34 : decode cX5_end 34 = .ok (.iload_n 1, 1) := by decide +kernel
theorem dX5_end_35 : decode cX5_end 35 = .ok (.invokevirtual 139, 3) := by decide +kernel
theorem dX5_end_38 : decode cX5_end 38 = .ok (.iaload, 1) := by decide +kernel
theorem dX5_end_39 : decode cX5_end 39 = .ok (.ireturn, 1) := by decide +kernel
theorem dX5_isAsGood_0 : decode cX5_isAsGood 0 = .ok (.aload_n 0, 1) := by decide +kernel
theorem dX5_isAsGood_1 : decode cX5_isAsGood 1 = .ok (.getfield 7, 3) := by decide +kernel
theorem dX5_isAsGood_4 : decode cX5_isAsGood 4 = .ok (.bipush 24, 2) := by decide +kernel
theorem dX5_isAsGood_6 : decode cX5_isAsGood 6 = .ok (.iload_n 3, 1) := by decide +kernel
theorem dX5_isAsGood_7 : decode cX5_isAsGood 7 = .ok (.iadd, 1) := by decide +kernel
theorem dX5_isAsGood_8 : decode cX5_isAsGood 8 = .ok (.iaload, 1) := by decide +kernel
theorem dX5_isAsGood_9 : decode cX5_isAsGood 9 = .ok (.istore 5, 2) := by decide +kernel
theorem dX5_isAsGood_11 : decode cX5_isAsGood 11 = .ok (.aload_n 0, 1) := by decide +kernel
theorem dX5_isAsGood_12 : decode cX5_isAsGood 12 = .ok (.getfield 7, 3) := by decide +kernel
theorem dX5_isAsGood_15 : decode cX5_isAsGood 15 = .ok (.bipush 24, 2) := by decide +kernel
theorem dX5_isAsGood_17 : decode cX5_isAsGood 17 = .ok (.iload_n 3, 1) := by decide +kernel
theorem dX5_isAsGood_18 : decode cX5_isAsGood 18 = .ok (.iadd, 1) := by decide +kernel
theorem dX5_isAsGood_19 : decode cX5_isAsGood 19 = .ok (.iload 4, 2) := by decide +kernel
theorem dX5_isAsGood_21 : decode cX5_isAsGood 21 = .ok (.iastore, 1) := by decide +kernel
theorem dX5_isAsGood_22 : decode cX5_isAsGood 22 = .ok (.aload_n 0, 1) := by decide +kernel
theorem dX5_isAsGood_23 : decode cX5_isAsGood 23 = .ok (.iload_n 1, 1) := by decide +kernel
theorem dX5_isAsGood_24 : decode cX5_isAsGood 24 = .ok (.invokevirtual 119, 3) := by decide +kernel
theorem dX5_isAsGood_27 : decode cX5_isAsGood 27 = .ok (.iload_n 2, 1) := by decide +kernel
theorem dX5_isAsGood_28 : decode cX5_isAsGood 28 = .ok (.if_icmp .ne 7, 3) := by decide +kernel
theorem dX5_isAsGood_31 : decode cX5_isAsGood 31 = .ok (.iconst 1, 1) := by decide +kernel
theorem dX5_isAsGood_32 : decode cX5_isAsGood 32 = .ok (.goto 4, 3) := by decide +kernel
theorem dX5_isAsGood_35 : decode cX5_isAsGood 35 = .ok (.iconst 0, 1) := by decide +kernel
theorem dX5_isAsGood_36 : decode cX5_isAsGood 36 = .ok (.istore 6, 2) := by decide +kernel
theorem dX5_isAsGood_38 : decode cX5_isAsGood 38 = .ok (.aload_n 0, 1) := by decide +kernel
theorem dX5_isAsGood_39 : decode cX5_isAsGood 39 = .ok (.getfield 7, 3) := by decide +kernel
theorem dX5_isAsGood_42 : decode cX5_isAsGood 42 = .ok (.bipush 24, 2) := by decide +kernel
theorem dX5_isAsGood_44 : decode cX5_isAsGood 44 = .ok (.iload_n 3, 1) := by decide +kernel
theorem dX5_isAsGood_45 : decode cX5_isAsGood 45 = .ok (.iadd, 1) := by decide +kernel
theorem dX5_isAsGood_46 : decode cX5_isAsGood 46 = .ok (.iload 5, 2) := by decide +kernel
theorem dX5_isAsGood_48 : decode cX5_isAsGood 48 = .ok (.iastore, 1) := by decide +kernel
theorem dX5_isAsGood_49 : decode cX5_isAsGood 49 = .ok (.iload 6, 2) := by decide +kernel
theorem dX5_isAsGood_51 : decode cX5_isAsGood 51 = .ok (.ireturn, 1) := by decide +kernel
theorem dX5_slack_0 : decode cX5_slack 0 = .ok (.aload_n 0, 1) := by decide +kernel
theorem dX5_slack_1 : decode cX5_slack 1 = .ok (.iload_n 1, 1) := by decide +kernel
theorem dX5_slack_2 : decode cX5_slack 2 = .ok (.invokevirtual 51, 3) := by decide +kernel
theorem dX5_slack_5 : decode cX5_slack 5 = .ok (.ifCond .ne 5, 3) := by decide +kernel
theorem dX5_slack_8 : decode cX5_slack 8 = .ok (.iconst (-1), 1) := by decide +kernel
theorem dX5_slack_9 : decode cX5_slack 9 = .ok (.ireturn, 1) := by decide +kernel
theorem dX5_slack_10 : decode cX5_slack 10 = .ok (.iload_n 2, 1) := by decide +kernel
theorem dX5_slack_11 : decode cX5_slack 11 = .ok (.invokestatic 122, 3) := by decide +kernel
theorem dX5_slack_14 : decode cX5_slack 14 = .ok (.ifCond .ne 6, 3) := by decide +kernel
theorem dX5_slack_17 : decode cX5_slack 17 = .ok (.bipush (-2), 2) := by decide +kernel
theorem dX5_slack_19 : decode cX5_slack 19 = .ok (.ireturn, 1) := by decide +kernel
theorem dX5_slack_20 : decode cX5_slack 20 = .ok (.aload_n 0, 1) := by decide +kernel
theorem dX5_slack_21 : decode cX5_slack 21 = .ok (.iload_n 2, 1) := by decide +kernel
theorem dX5_slack_22 : decode cX5_slack 22 = .ok (.invokevirtual 125, 3) := by decide +kernel
theorem dX5_slack_25 : decode cX5_slack 25 = .ok (.istore_n 3, 1) := by decide +kernel
theorem dX5_slack_26 : decode cX5_slack 26 = .ok (.aload_n 0, 1) := by decide +kernel
theorem dX5_slack_27 : decode cX5_slack 27 = .ok (.getfield 7, 3) := by decide +kernel
theorem dX5_slack_30 : decode cX5_slack 30 = .ok (.bipush 24, 2) := by decide +kernel
theorem dX5_slack_32 : decode cX5_slack 32 = .ok (.iload_n 1, 1) := by decide +kernel
theorem dX5_slack_33 : decode cX5_slack 33 = .ok (.iadd, 1) := by decide +kernel
theorem dX5_slack_34 : decode cX5_slack 34 = .ok (.iaload, 1) := by decide +kernel
theorem dX5_slack_35 : decode cX5_slack 35 = .ok (.istore 4, 2) := by decide +kernel
theorem dX5_slack_37 : decode cX5_slack 37 = .ok (.iload 4, 2) := by decide +kernel
theorem dX5_slack_39 : decode cX5_slack 39 = .ok (.istore 5, 2) := by decide +kernel
theorem dX5_slack_41 : decode cX5_slack 41 = .ok (.iconst (-1), 1) := by decide +kernel
theorem dX5_slack_42 : decode cX5_slack 42 = .ok (.istore 6, 2) := by decide +kernel
theorem dX5_slack_44 : decode cX5_slack 44 = .ok (.iload 5, 2) := by decide +kernel
theorem dX5_slack_46 : decode cX5_slack 46 = .ok (.iload 6, 2) := by decide +kernel
theorem dX5_slack_48 : decode cX5_slack 48 = .ok (.isub, 1) := by decide +kernel
theorem dX5_slack_49 : decode cX5_slack 49 = .ok (.iconst 1, 1) := by decide +kernel
theorem dX5_slack_50 : decode cX5_slack 50 = .ok (.if_icmp .le 38, 3) := by decide +kernel
theorem dX5_slack_53 : decode cX5_slack 53 = .ok (.iload 5, 2) := by decide +kernel
theorem dX5_slack_55 : decode cX5_slack 55 = .ok (.iload 6, 2) := by decide +kernel
theorem dX5_slack_57 : decode cX5_slack 57 = .ok (.iadd, 1) := by decide +kernel
theorem dX5_slack_58 : decode cX5_slack 58 = .ok (.iconst 2, 1) := by decide +kernel
theorem dX5_slack_59 : decode cX5_slack 59 = .ok (.idiv, 1) := by decide +kernel
theorem dX5_slack_60 : decode cX5_slack 60 = .ok (.istore 7, 2) := by decide +kernel
theorem dX5_slack_62 : decode cX5_slack 62 = .ok (.aload_n 0, 1) := by decide +kernel
theorem dX5_slack_63 : decode cX5_slack 63 = .ok (.iload_n 2, 1) := by decide +kernel
theorem dX5_slack_64 : decode cX5_slack 64 = .ok (.iload_n 3, 1) := by decide +kernel
theorem dX5_slack_65 : decode cX5_slack 65 = .ok (.iload_n 1, 1) := by decide +kernel
theorem dX5_slack_66 : decode cX5_slack 66 = .ok (.iload 7, 2) := by decide +kernel
theorem dX5_slack_68 : decode cX5_slack 68 = .ok (.invokevirtual 142, 3) := by decide +kernel
theorem dX5_slack_71 : decode cX5_slack 71 = .ok (.ifCond .eq 10, 3) := by decide +kernel
theorem dX5_slack_74 : decode cX5_slack 74 = .ok (.iload 7, 2) := by decide +kernel
theorem dX5_slack_76 : decode cX5_slack 76 = .ok (.istore 5, 2) := by decide +kernel
theorem dX5_slack_78 : decode cX5_slack 78 = .ok (.goto 7, 3) := by decide +kernel
theorem dX5_slack_81 : decode cX5_slack 81 = .ok (.iload 7, 2) := by decide +kernel
theorem dX5_slack_83 : decode cX5_slack 83 = .ok (.istore 6, 2) := by decide +kernel
theorem dX5_slack_85 : decode cX5_slack 85 = .ok (.goto (-41), 3) := by decide +kernel
theorem dX5_slack_88 : decode cX5_slack 88 = .ok (.iload 4, 2) := by decide +kernel
theorem dX5_slack_90 : decode cX5_slack 90 = .ok (.iload 5, 2) := by decide +kernel
theorem dX5_slack_92 : decode cX5_slack 92 = .ok (.isub, 1) := by decide +kernel
theorem dX5_slack_93 : decode cX5_slack 93 = .ok (.ireturn, 1) := by decide +kernel
theorem dX5_isTighter_0 : decode cX5_isTighter 0 = .ok (.iload_n 2, 1) := by decide +kernel
theorem dX5_isTighter_1 : decode cX5_isTighter 1 = .ok (.ifCond .lt 16, 3) := by decide +kernel
theorem dX5_isTighter_4 : decode cX5_isTighter 4 = .ok (.aload_n 0, 1) := by decide +kernel
theorem dX5_isTighter_5 : decode cX5_isTighter 5 = .ok (.iload_n 1, 1) := by decide +kernel
theorem dX5_isTighter_6 : decode cX5_isTighter 6 = .ok (.invokevirtual 58, 3) := by decide +kernel
theorem dX5_isTighter_9 : decode cX5_isTighter 9 = .ok (.aload_n 0, 1) := by decide +kernel
theorem dX5_isTighter_10 : decode cX5_isTighter 10 = .ok (.iload_n 2, 1) := by decide +kernel
theorem dX5_isTighter_11 : decode cX5_isTighter 11 = .ok (.invokevirtual 58, 3) := by decide +kernel
theorem dX5_isTighter_14 : decode cX5_isTighter 14 = .ok (.if_icmp .ge 7, 3) := by decide +kernel
theorem dX5_isTighter_17 : decode cX5_isTighter 17 = .ok (.iconst 1, 1) := by decide +kernel
theorem dX5_isTighter_18 : decode cX5_isTighter 18 = .ok (.goto 4, 3) := by decide +kernel
theorem dX5_isTighter_21 : decode cX5_isTighter 21 = .ok (.iconst 0, 1) := by decide +kernel
theorem dX5_isTighter_22 : decode cX5_isTighter 22 = .ok (.ireturn, 1) := by decide +kernel
theorem dX5_tightest_0 : decode cX5_tightest 0 = .ok (.bipush (-6), 2) := by decide +kernel
theorem dX5_tightest_2 : decode cX5_tightest 2 = .ok (.istore 4, 2) := by decide +kernel
theorem dX5_tightest_4 : decode cX5_tightest 4 = .ok (.iconst 0, 1) := by decide +kernel
theorem dX5_tightest_5 : decode cX5_tightest 5 = .ok (.istore 5, 2) := by decide +kernel
theorem dX5_tightest_7 : decode cX5_tightest 7 = .ok (.iload 5, 2) := by decide +kernel
theorem dX5_tightest_9 : decode cX5_tightest 9 = .ok (.aload_n 0, 1) := by decide +kernel
theorem dX5_tightest_10 : decode cX5_tightest 10 = .ok (.invokevirtual 43, 3) := by decide +kernel
theorem dX5_tightest_13 : decode cX5_tightest 13 = .ok (.if_icmp .ge 82, 3) := by decide +kernel
theorem dX5_tightest_16 : decode cX5_tightest 16 = .ok (.iload_n 1, 1) := by decide +kernel
theorem dX5_tightest_17 : decode cX5_tightest 17 = .ok (.iload 5, 2) := by decide +kernel
theorem dX5_tightest_19 : decode cX5_tightest 19 = .ok (.invokestatic 62, 3) := by decide +kernel
theorem dX5_tightest_22 : decode cX5_tightest 22 = .ok (.ifCond .eq 39, 3) := by decide +kernel
theorem dX5_tightest_25 : decode cX5_tightest 25 = .ok (.iload_n 2, 1) := by decide +kernel
theorem dX5_tightest_26 : decode cX5_tightest 26 = .ok (.ifCond .lt 17, 3) := by decide +kernel
theorem dX5_tightest_29 : decode cX5_tightest 29 = .ok (.aload_n 0, 1) := by decide +kernel
theorem dX5_tightest_30 : decode cX5_tightest 30 = .ok (.getfield 7, 3) := by decide +kernel
theorem dX5_tightest_33 : decode cX5_tightest 33 = .ok (.bipush 10, 2) := by decide +kernel
theorem dX5_tightest_35 : decode cX5_tightest 35 = .ok (.iload 5, 2) := by decide +kernel
theorem dX5_tightest_37 : decode cX5_tightest 37 = .ok (.iadd, 1) := by decide +kernel
theorem dX5_tightest_38 : decode cX5_tightest 38 = .ok (.iaload, 1) := by decide +kernel
theorem dX5_tightest_39 : decode cX5_tightest 39 = .ok (.iload_n 2, 1) := by decide +kernel
theorem dX5_tightest_40 : decode cX5_tightest 40 = .ok (.if_icmp .ne 21, 3) := by decide +kernel
theorem dX5_tightest_43 : decode cX5_tightest 43 = .ok (.aload_n 0, 1) := by decide +kernel
theorem dX5_tightest_44 : decode cX5_tightest 44 = .ok (.getfield 7, 3) := by decide +kernel
theorem dX5_tightest_47 : decode cX5_tightest 47 = .ok (.bipush 17, 2) := by decide +kernel
theorem dX5_tightest_49 : decode cX5_tightest 49 = .ok (.iload 5, 2) := by decide +kernel
theorem dX5_tightest_51 : decode cX5_tightest 51 = .ok (.iadd, 1) := by decide +kernel
theorem dX5_tightest_52 : decode cX5_tightest 52 = .ok (.iaload, 1) := by decide +kernel
theorem dX5_tightest_53 : decode cX5_tightest 53 = .ok (.iload_n 3, 1) := by decide +kernel
theorem dX5_tightest_54 : decode cX5_tightest 54 = .ok (.if_icmp .gt 7, 3) := by decide +kernel
theorem dX5_tightest_57 : decode cX5_tightest 57 = .ok (.iconst 1, 1) := by decide +kernel
theorem dX5_tightest_58 : decode cX5_tightest 58 = .ok (.goto 4, 3) := by decide +kernel
theorem dX5_tightest_61 : decode cX5_tightest 61 = .ok (.iconst 0, 1) := by decide +kernel
theorem dX5_tightest_62 : decode cX5_tightest 62 = .ok (.istore 6, 2) := by decide +kernel
theorem dX5_tightest_64 : decode cX5_tightest 64 = .ok (.iload 6, 2) := by decide +kernel
theorem dX5_tightest_66 : decode cX5_tightest 66 = .ok (.ifCond .eq 19, 3) := by decide +kernel
theorem dX5_tightest_69 : decode cX5_tightest 69 = .ok (.aload_n 0, 1) := by decide +kernel
theorem dX5_tightest_70 : decode cX5_tightest 70 = .ok (.iload 5, 2) := by decide +kernel
theorem dX5_tightest_72 : decode cX5_tightest 72 = .ok (.iload 4, 2) := by decide +kernel
theorem dX5_tightest_74 : decode cX5_tightest 74 = .ok (.invokevirtual 146, 3) := by decide +kernel
theorem dX5_tightest_77 : decode cX5_tightest 77 = .ok (.ifCond .eq 8, 3) := by decide +kernel
theorem dX5_tightest_80 : decode cX5_tightest 80 = .ok (.iload 5, 2) := by decide +kernel
theorem dX5_tightest_82 : decode cX5_tightest 82 = .ok (.goto 5, 3) := by decide +kernel
theorem dX5_tightest_85 : decode cX5_tightest 85 = .ok (.iload 4, 2) := by decide +kernel
theorem dX5_tightest_87 : decode cX5_tightest 87 = .ok (.istore 4, 2) := by decide +kernel
theorem dX5_tightest_89 : decode cX5_tightest 89 = .ok (.iinc 5 1, 3) := by decide +kernel
theorem dX5_tightest_92 : decode cX5_tightest 92 = .ok (.goto (-85), 3) := by decide +kernel
theorem dX5_tightest_95 : decode cX5_tightest 95 = .ok (.iload 4, 2) := by decide +kernel
theorem dX5_tightest_97 : decode cX5_tightest 97 = .ok (.ireturn, 1) := by decide +kernel
theorem dX5_layRule_0 : decode cX5_layRule 0 = .ok (.aload_n 0, 1) := by decide +kernel
theorem dX5_layRule_1 : decode cX5_layRule 1 = .ok (.iconst 0, 1) := by decide +kernel
theorem dX5_layRule_2 : decode cX5_layRule 2 = .ok (.putfield 69, 3) := by decide +kernel
theorem dX5_layRule_5 : decode cX5_layRule 5 = .ok (.aload_n 0, 1) := by decide +kernel
theorem dX5_layRule_6 : decode cX5_layRule 6 = .ok (.invokevirtual 89, 3) := by decide +kernel
theorem dX5_layRule_9 : decode cX5_layRule 9 = .ok (.istore_n 1, 1) := by decide +kernel
theorem dX5_layRule_10 : decode cX5_layRule 10 = .ok (.iload_n 1, 1) := by decide +kernel
theorem dX5_layRule_11 : decode cX5_layRule 11 = .ok (.ifCond .le 118, 3) := by decide +kernel
theorem dX5_layRule_14 : decode cX5_layRule 14 = .ok (.aload_n 0, 1) := by decide +kernel
theorem dX5_layRule_15 : decode cX5_layRule 15 = .ok (.iload_n 1, 1) := by decide +kernel
theorem dX5_layRule_16 : decode cX5_layRule 16 = .ok (.bipush (-6), 2) := by decide +kernel
theorem dX5_layRule_18 : decode cX5_layRule 18 = .ok (.aload_n 0, 1) := by decide +kernel
theorem dX5_layRule_19 : decode cX5_layRule 19 = .ok (.getfield 7, 3) := by decide +kernel
theorem dX5_layRule_22 : decode cX5_layRule 22 = .ok (.bipush 6, 2) := by decide +kernel
theorem dX5_layRule_24 : decode cX5_layRule 24 = .ok (.iaload, 1) := by decide +kernel
theorem dX5_layRule_25 : decode cX5_layRule 25 = .ok (.invokevirtual 149, 3) := by decide +kernel
theorem dX5_layRule_28 : decode cX5_layRule 28 = .ok (.istore_n 2, 1) := by decide +kernel
theorem dX5_layRule_29 : decode cX5_layRule 29 = .ok (.aload_n 0, 1) := by decide +kernel
theorem dX5_layRule_30 : decode cX5_layRule 30 = .ok (.getfield 7, 3) := by decide +kernel
theorem dX5_layRule_33 : decode cX5_layRule 33 = .ok (.bipush 10, 2) := by decide +kernel
theorem dX5_layRule_35 : decode cX5_layRule 35 = .ok (.iload_n 2, 1) := by decide +kernel
theorem dX5_layRule_36 : decode cX5_layRule 36 = .ok (.iadd, 1) := by decide +kernel
theorem dX5_layRule_37 : decode cX5_layRule 37 = .ok (.iaload, 1) := by decide +kernel
theorem dX5_layRule_38 : decode cX5_layRule 38 = .ok (.istore_n 3, 1) := by decide +kernel
theorem dX5_layRule_39 : decode cX5_layRule 39 = .ok (.iconst 0, 1) := by decide +kernel
theorem dX5_layRule_40 : decode cX5_layRule 40 = .ok (.istore 4, 2) := by decide +kernel
theorem dX5_layRule_42 : decode cX5_layRule 42 = .ok (.aload_n 0, 1) := by decide +kernel
theorem dX5_layRule_43 : decode cX5_layRule 43 = .ok (.getfield 7, 3) := by decide +kernel
theorem dX5_layRule_46 : decode cX5_layRule 46 = .ok (.bipush 6, 2) := by decide +kernel
theorem dX5_layRule_48 : decode cX5_layRule 48 = .ok (.iaload, 1) := by decide +kernel
theorem dX5_layRule_49 : decode cX5_layRule 49 = .ok (.istore 5, 2) := by decide +kernel
theorem dX5_layRule_51 : decode cX5_layRule 51 = .ok (.iload_n 2, 1) := by decide +kernel
theorem dX5_layRule_52 : decode cX5_layRule 52 = .ok (.istore 6, 2) := by decide +kernel
theorem dX5_layRule_54 : decode cX5_layRule 54 = .ok (.iload 6, 2) := by decide +kernel
theorem dX5_layRule_56 : decode cX5_layRule 56 = .ok (.ifCond .lt 49, 3) := by decide +kernel
theorem dX5_layRule_59 : decode cX5_layRule 59 = .ok (.iload 4, 2) := by decide +kernel
theorem dX5_layRule_61 : decode cX5_layRule 61 = .ok (.iconst 1, 1) := by decide +kernel
theorem dX5_layRule_62 : decode cX5_layRule 62 = .ok (.iload 6, 2) := by decide +kernel
theorem dX5_layRule_64 : decode cX5_layRule 64 = .ok (.ishl, 1) := by decide +kernel
theorem dX5_layRule_65 : decode cX5_layRule 65 = .ok (.ior, 1) := by decide +kernel
theorem dX5_layRule_66 : decode cX5_layRule 66 = .ok (.istore 4, 2) := by decide +kernel
theorem dX5_layRule_68 : decode cX5_layRule 68 = .ok (.iload_n 1, 1) := by decide +kernel
theorem dX5_layRule_69 : decode cX5_layRule 69 = .ok (.iconst 1, 1) := by decide +kernel
theorem dX5_layRule_70 : decode cX5_layRule 70 = .ok (.iload 6, 2) := by decide +kernel
theorem dX5_layRule_72 : decode cX5_layRule 72 = .ok (.ishl, 1) := by decide +kernel
theorem dX5_layRule_73 : decode cX5_layRule 73 = .ok (.iconst (-1), 1) := by decide +kernel
theorem dX5_layRule_74 : decode cX5_layRule 74 = .ok (.ixor, 1) := by decide +kernel
theorem dX5_layRule_75 : decode cX5_layRule 75 = .ok (.iand, 1) := by decide +kernel
theorem dX5_layRule_76 : decode cX5_layRule 76 = .ok (.istore_n 1, 1) := by decide +kernel
theorem dX5_layRule_77 : decode cX5_layRule 77 = .ok (.iload 5, 2) := by decide +kernel
theorem dX5_layRule_79 : decode cX5_layRule 79 = .ok (.aload_n 0, 1) := by decide +kernel
theorem dX5_layRule_80 : decode cX5_layRule 80 = .ok (.getfield 7, 3) := by decide +kernel
theorem dX5_layRule_83 : decode cX5_layRule 83 = .ok (.bipush 17, 2) := by decide +kernel
theorem dX5_layRule_85 : decode cX5_layRule 85 = .ok (.iload 6, 2) := by decide +kernel
theorem dX5_layRule_87 : decode cX5_layRule 87 = .ok (.iadd, 1) := by decide +kernel
theorem dX5_layRule_88 : decode cX5_layRule 88 = .ok (.iaload, 1) := by decide +kernel
theorem dX5_layRule_89 : decode cX5_layRule 89 = .ok (.isub, 1) := by decide +kernel
theorem dX5_layRule_90 : decode cX5_layRule 90 = .ok (.istore 5, 2) := by decide +kernel
theorem dX5_layRule_92 : decode cX5_layRule 92 = .ok (.aload_n 0, 1) := by decide +kernel
theorem dX5_layRule_93 : decode cX5_layRule 93 = .ok (.iload_n 1, 1) := by decide +kernel
theorem dX5_layRule_94 : decode cX5_layRule 94 = .ok (.iload_n 3, 1) := by decide +kernel
theorem dX5_layRule_95 : decode cX5_layRule 95 = .ok (.iload 5, 2) := by decide +kernel
theorem dX5_layRule_97 : decode cX5_layRule 97 = .ok (.invokevirtual 149, 3) := by decide +kernel
theorem dX5_layRule_100 : decode cX5_layRule 100 = .ok (.istore 6, 2) := by decide +kernel
theorem dX5_layRule_102 : decode cX5_layRule 102 = .ok (.goto (-48), 3) := by decide +kernel
theorem dX5_layRule_105 : decode cX5_layRule 105 = .ok (.aload_n 0, 1) := by decide +kernel
theorem dX5_layRule_106 : decode cX5_layRule 106 = .ok (.getfield 23, 3) := by decide +kernel
theorem dX5_layRule_109 : decode cX5_layRule 109 = .ok (.aload_n 0, 1) := by decide +kernel
theorem dX5_layRule_110 : decode cX5_layRule 110 = .ok (.getfield 69, 3) := by decide +kernel
theorem dX5_layRule_113 : decode cX5_layRule 113 = .ok (.iload 4, 2) := by decide +kernel
theorem dX5_layRule_115 : decode cX5_layRule 115 = .ok (.iastore, 1) := by decide +kernel
theorem dX5_layRule_116 : decode cX5_layRule 116 = .ok (.aload_n 0, 1) := by decide +kernel
theorem dX5_layRule_117 : decode cX5_layRule 117 = .ok (.dup, 1) := by decide +kernel
theorem dX5_layRule_118 : decode cX5_layRule 118 = .ok (.getfield 69, 3) := by decide +kernel
theorem dX5_layRule_121 : decode cX5_layRule 121 = .ok (.iconst 1, 1) := by decide +kernel
theorem dX5_layRule_122 : decode cX5_layRule 122 = .ok (.iadd, 1) := by decide +kernel
theorem dX5_layRule_123 : decode cX5_layRule 123 = .ok (.putfield 69, 3) := by decide +kernel
theorem dX5_layRule_126 : decode cX5_layRule 126 = .ok (.goto (-116), 3) := by decide +kernel
theorem dX5_layRule_129 : decode cX5_layRule 129 = .ok (.return_, 1) := by decide +kernel
theorem dX5_rule_0 : decode cX5_rule 0 = .ok (.iload_n 1, 1) := by decide +kernel
theorem dX5_rule_1 : decode cX5_rule 1 = .ok (.iconst (-1), 1) := by decide +kernel
theorem dX5_rule_2 : decode cX5_rule 2 = .ok (.if_icmp .ge 6, 3) := by decide +kernel
theorem dX5_rule_5 : decode cX5_rule 5 = .ok (.bipush (-2), 2) := by decide +kernel
theorem dX5_rule_7 : decode cX5_rule 7 = .ok (.ireturn, 1) := by decide +kernel
theorem dX5_rule_8 : decode cX5_rule 8 = .ok (.aload_n 0, 1) := by decide +kernel
theorem dX5_rule_9 : decode cX5_rule 9 = .ok (.invokevirtual 152, 3) := by decide +kernel
theorem dX5_rule_12 : decode cX5_rule 12 = .ok (.aload_n 0, 1) := by decide +kernel
theorem dX5_rule_13 : decode cX5_rule 13 = .ok (.iload_n 1, 1) := by decide +kernel
theorem dX5_rule_14 : decode cX5_rule 14 = .ok (.invokevirtual 136, 3) := by decide +kernel
theorem dX5_rule_17 : decode cX5_rule 17 = .ok (.ireturn, 1) := by decide +kernel
theorem dX5_ruled_0 : decode cX5_ruled 0 = .ok (.iload_n 1, 1) := by decide +kernel
theorem dX5_ruled_1 : decode cX5_ruled 1 = .ok (.invokestatic 122, 3) := by decide +kernel
theorem dX5_ruled_4 : decode cX5_ruled 4 = .ok (.ifCond .ne 6, 3) := by decide +kernel
theorem dX5_ruled_7 : decode cX5_ruled 7 = .ok (.bipush (-2), 2) := by decide +kernel
theorem dX5_ruled_9 : decode cX5_ruled 9 = .ok (.ireturn, 1) := by decide +kernel
theorem dX5_ruled_10 : decode cX5_ruled 10 = .ok (.aload_n 0, 1) := by decide +kernel
theorem dX5_ruled_11 : decode cX5_ruled 11 = .ok (.invokevirtual 152, 3) := by decide +kernel
theorem dX5_ruled_14 : decode cX5_ruled 14 = .ok (.aload_n 0, 1) := by decide +kernel
theorem dX5_ruled_15 : decode cX5_ruled 15 = .ok (.iload_n 1, 1) := by decide +kernel
theorem dX5_ruled_16 : decode cX5_ruled 16 = .ok (.invokevirtual 155, 3) := by decide +kernel
theorem dX5_ruled_19 : decode cX5_ruled 19 = .ok (.ireturn, 1) := by decide +kernel
theorem dX5_say_0 : decode cX5_say 0 = .ok (.iload_n 1, 1) := by decide +kernel
theorem dX5_say_1 : decode cX5_say 1 = .ok (.bipush 33, 2) := by decide +kernel
theorem dX5_say_3 : decode cX5_say 3 = .ok (.bipush 126, 2) := by decide +kernel
theorem dX5_say_5 : decode cX5_say 5 = .ok (.invokestatic 39, 3) := by decide +kernel
theorem dX5_say_8 : decode cX5_say 8 = .ok (.ifCond .ne 6, 3) := by decide +kernel
theorem dX5_say_11 : decode cX5_say 11 = .ok (.bipush (-2), 2) := by decide +kernel
theorem dX5_say_13 : decode cX5_say 13 = .ok (.ireturn, 1) := by decide +kernel
theorem dX5_say_14 : decode cX5_say 14 = .ok (.aload_n 0, 1) := by decide +kernel
theorem dX5_say_15 : decode cX5_say 15 = .ok (.getfield 158, 3) := by decide +kernel
theorem dX5_say_18 : decode cX5_say 18 = .ok (.bipush 14, 2) := by decide +kernel
theorem dX5_say_20 : decode cX5_say 20 = .ok (.if_icmp .ne 6, 3) := by decide +kernel
theorem dX5_say_23 : decode cX5_say 23 = .ok (.bipush (-4), 2) := by decide +kernel
theorem dX5_say_25 : decode cX5_say 25 = .ok (.ireturn, 1) := by decide +kernel
theorem dX5_say_26 : decode cX5_say 26 = .ok (.aload_n 0, 1) := by decide +kernel
theorem dX5_say_27 : decode cX5_say 27 = .ok (.getfield 20, 3) := by decide +kernel
theorem dX5_say_30 : decode cX5_say 30 = .ok (.aload_n 0, 1) := by decide +kernel
theorem dX5_say_31 : decode cX5_say 31 = .ok (.getfield 158, 3) := by decide +kernel
theorem dX5_say_34 : decode cX5_say 34 = .ok (.iload_n 1, 1) := by decide +kernel
theorem dX5_say_35 : decode cX5_say 35 = .ok (.iastore, 1) := by decide +kernel
theorem dX5_say_36 : decode cX5_say 36 = .ok (.aload_n 0, 1) := by decide +kernel
theorem dX5_say_37 : decode cX5_say 37 = .ok (.dup, 1) := by decide +kernel
theorem dX5_say_38 : decode cX5_say 38 = .ok (.getfield 158, 3) := by decide +kernel
theorem dX5_say_41 : decode cX5_say 41 = .ok (.iconst 1, 1) := by decide +kernel
theorem dX5_say_42 : decode cX5_say 42 = .ok (.iadd, 1) := by decide +kernel
theorem dX5_say_43 : decode cX5_say 43 = .ok (.putfield 158, 3) := by decide +kernel
theorem dX5_say_46 : decode cX5_say 46 = .ok (.aload_n 0, 1) := by decide +kernel
theorem dX5_say_47 : decode cX5_say 47 = .ok (.getfield 158, 3) := by decide +kernel
theorem dX5_say_50 : decode cX5_say 50 = .ok (.ireturn, 1) := by decide +kernel
theorem dX5_wipe_0 : decode cX5_wipe 0 = .ok (.aload_n 0, 1) := by decide +kernel
theorem dX5_wipe_1 : decode cX5_wipe 1 = .ok (.getfield 158, 3) := by decide +kernel
theorem dX5_wipe_4 : decode cX5_wipe 4 = .ok (.istore_n 1, 1) := by decide +kernel
theorem dX5_wipe_5 : decode cX5_wipe 5 = .ok (.aload_n 0, 1) := by decide +kernel
theorem dX5_wipe_6 : decode cX5_wipe 6 = .ok (.iconst 0, 1) := by decide +kernel
theorem dX5_wipe_7 : decode cX5_wipe 7 = .ok (.putfield 158, 3) := by decide +kernel
theorem dX5_wipe_10 : decode cX5_wipe 10 = .ok (.iload_n 1, 1) := by decide +kernel
theorem dX5_wipe_11 : decode cX5_wipe 11 = .ok (.ireturn, 1) := by decide +kernel
theorem dX5_canStand_0 : decode cX5_canStand 0 = .ok (.iload_n 1, 1) := by decide +kernel
theorem dX5_canStand_1 : decode cX5_canStand 1 = .ok (.bipush 47, 2) := by decide +kernel
theorem dX5_canStand_3 : decode cX5_canStand 3 = .ok (.if_icmp .ne 16, 3) := by decide +kernel
theorem dX5_canStand_6 : decode cX5_canStand 6 = .ok (.aload_n 0, 1) := by decide +kernel
theorem dX5_canStand_7 : decode cX5_canStand 7 = .ok (.getfield 161, 3) := by decide +kernel
theorem dX5_canStand_10 : decode cX5_canStand 10 = .ok (.ifCond .eq 7, 3) := by decide +kernel
theorem dX5_canStand_13 : decode cX5_canStand 13 = .ok (.iconst 1, 1) := by decide +kernel
theorem dX5_canStand_14 : decode cX5_canStand 14 = .ok (.goto 4, 3) := by decide +kernel
theorem dX5_canStand_17 : decode cX5_canStand 17 = .ok (.iconst 0, 1) := by decide +kernel
theorem dX5_canStand_18 : decode cX5_canStand 18 = .ok (.ireturn, 1) := by decide +kernel
theorem dX5_canStand_19 : decode cX5_canStand 19 = .ok (.iload_n 1, 1) := by decide +kernel
theorem dX5_canStand_20 : decode cX5_canStand 20 = .ok (.bipush 48, 2) := by decide +kernel
theorem dX5_canStand_22 : decode cX5_canStand 22 = .ok (.isub, 1) := by decide +kernel
theorem dX5_canStand_23 : decode cX5_canStand 23 = .ok (.istore_n 2, 1) := by decide +kernel
theorem dX5_canStand_24 : decode cX5_canStand 24 = .ok (.iload_n 2, 1) := by decide +kernel
theorem dX5_canStand_25 : decode cX5_canStand 25 = .ok (.iconst 0, 1) := by decide +kernel
theorem dX5_canStand_26 : decode cX5_canStand 26 = .ok (.bipush 6, 2) := by decide +kernel
theorem dX5_canStand_28 : decode cX5_canStand 28 = .ok (.invokestatic 39, 3) := by decide +kernel
theorem dX5_canStand_31 : decode cX5_canStand 31 = .ok (.ifCond .eq 22, 3) := by decide +kernel
theorem dX5_canStand_34 : decode cX5_canStand 34 = .ok (.aload_n 0, 1) := by decide +kernel
theorem dX5_canStand_35 : decode cX5_canStand 35 = .ok (.iload_n 2, 1) := by decide +kernel
theorem dX5_canStand_36 : decode cX5_canStand 36 = .ok (.invokevirtual 51, 3) := by decide +kernel
theorem dX5_canStand_39 : decode cX5_canStand 39 = .ok (.ifCond .eq 14, 3) := by decide +kernel
theorem dX5_canStand_42 : decode cX5_canStand 42 = .ok (.aload_n 0, 1) := by decide +kernel
theorem dX5_canStand_43 : decode cX5_canStand 43 = .ok (.getfield 164, 3) := by decide +kernel
theorem dX5_canStand_46 : decode cX5_canStand 46 = .ok (.iload_n 2, 1) := by decide +kernel
theorem dX5_canStand_47 : decode cX5_canStand 47 = .ok (.invokestatic 62, 3) := by decide +kernel
theorem dX5_canStand_50 : decode cX5_canStand 50 = .ok (.ifCond .eq 5, 3) := by decide +kernel
theorem dX5_canStand_53 : decode cX5_canStand 53 = .ok (.iconst 0, 1) := by decide +kernel
theorem dX5_canStand_54 : decode cX5_canStand 54 = .ok (.ireturn, 1) := by decide +kernel
theorem dX5_canStand_55 : decode cX5_canStand 55 = .ok (.aload_n 0, 1) := by decide +kernel
theorem dX5_canStand_56 : decode cX5_canStand 56 = .ok (.aload_n 0, 1) := by decide +kernel
theorem dX5_canStand_57 : decode cX5_canStand 57 = .ok (.getfield 161, 3) := by decide +kernel
theorem dX5_canStand_60 : decode cX5_canStand 60 = .ok (.iconst 1, 1) := by decide +kernel
theorem dX5_canStand_61 : decode cX5_canStand 61 = .ok (.iload_n 2, 1) := by decide +kernel
theorem dX5_canStand_62 : decode cX5_canStand 62 = .ok (.ishl, 1) := by decide +kernel
theorem dX5_canStand_63 : decode cX5_canStand 63 = .ok (.ior, 1) := by decide +kernel
theorem dX5_canStand_64 : decode cX5_canStand 64 = .ok (.invokevirtual 73, 3) := by decide +kernel
theorem dX5_canStand_67 : decode cX5_canStand 67 = .ok (.ifCond .lt 29, 3) := by decide +kernel
theorem dX5_canStand_70 : decode cX5_canStand 70 = .ok (.aload_n 0, 1) := by decide +kernel
theorem dX5_canStand_71 : decode cX5_canStand 71 = .ok (.aload_n 0, 1) := by decide +kernel
theorem dX5_canStand_72 : decode cX5_canStand 72 = .ok (.getfield 161, 3) := by decide +kernel
theorem dX5_canStand_75 : decode cX5_canStand 75 = .ok (.iconst 1, 1) := by decide +kernel
theorem dX5_canStand_76 : decode cX5_canStand 76 = .ok (.iload_n 2, 1) := by decide +kernel
theorem dX5_canStand_77 : decode cX5_canStand 77 = .ok (.ishl, 1) := by decide +kernel
theorem dX5_canStand_78 : decode cX5_canStand 78 = .ok (.ior, 1) := by decide +kernel
theorem dX5_canStand_79 : decode cX5_canStand 79 = .ok (.invokevirtual 92, 3) := by decide +kernel
theorem dX5_canStand_82 : decode cX5_canStand 82 = .ok (.aload_n 0, 1) := by decide +kernel
theorem dX5_canStand_83 : decode cX5_canStand 83 = .ok (.getfield 7, 3) := by decide +kernel
theorem dX5_canStand_86 : decode cX5_canStand 86 = .ok (.bipush 6, 2) := by decide +kernel
theorem dX5_canStand_88 : decode cX5_canStand 88 = .ok (.iaload, 1) := by decide +kernel
theorem dX5_canStand_89 : decode cX5_canStand 89 = .ok (.if_icmp .gt 7, 3) := by decide +kernel
theorem dX5_canStand_92 : decode cX5_canStand 92 = .ok (.iconst 1, 1) := by decide +kernel
theorem dX5_canStand_93 : decode cX5_canStand 93 = .ok (.goto 4, 3) := by decide +kernel
theorem dX5_canStand_96 : decode cX5_canStand 96 = .ok (.iconst 0, 1) := by decide +kernel
theorem dX5_canStand_97 : decode cX5_canStand 97 = .ok (.ireturn, 1) := by decide +kernel
theorem dX5_layPad_0 : decode cX5_layPad 0 = .ok (.aload_n 0, 1) := by decide +kernel
theorem dX5_layPad_1 : decode cX5_layPad 1 = .ok (.iconst 0, 1) := by decide +kernel
theorem dX5_layPad_2 : decode cX5_layPad 2 = .ok (.putfield 164, 3) := by decide +kernel
theorem dX5_layPad_5 : decode cX5_layPad 5 = .ok (.aload_n 0, 1) := by decide +kernel
theorem dX5_layPad_6 : decode cX5_layPad 6 = .ok (.iconst 0, 1) := by decide +kernel
theorem dX5_layPad_7 : decode cX5_layPad 7 = .ok (.putfield 161, 3) := by decide +kernel
theorem dX5_layPad_10 : decode cX5_layPad 10 = .ok (.aload_n 0, 1) := by decide +kernel
theorem dX5_layPad_11 : decode cX5_layPad 11 = .ok (.iconst 0, 1) := by decide +kernel
theorem dX5_layPad_12 : decode cX5_layPad 12 = .ok (.putfield 69, 3) := by decide +kernel
theorem dX5_layPad_15 : decode cX5_layPad 15 = .ok (.iconst 0, 1) := by decide +kernel
theorem dX5_layPad_16 : decode cX5_layPad 16 = .ok (.istore_n 1, 1) := by decide +kernel
theorem dX5_layPad_17 : decode cX5_layPad 17 = .ok (.iload_n 1, 1) := by decide +kernel
theorem dX5_layPad_18 : decode cX5_layPad 18 = .ok (.aload_n 0, 1) := by decide +kernel
theorem dX5_layPad_19 : decode cX5_layPad 19 = .ok (.getfield 158, 3) := by decide +kernel
theorem dX5_layPad_22 : decode cX5_layPad 22 = .ok (.if_icmp .ge 106, 3) := by decide +kernel
theorem dX5_layPad_25 : decode cX5_layPad 25 = .ok (.aload_n 0, 1) := by decide +kernel
theorem dX5_layPad_26 : decode cX5_layPad 26 = .ok (.aload_n 0, 1) := by decide +kernel
theorem dX5_layPad_27 : decode cX5_layPad 27 = .ok (.getfield 20, 3) := by decide +kernel
theorem dX5_layPad_30 : decode cX5_layPad 30 = .ok (.iload_n 1, 1) := by decide +kernel
theorem dX5_layPad_31 : decode cX5_layPad 31 = .ok (.iaload, 1) := by decide +kernel
theorem dX5_layPad_32 : decode cX5_layPad 32 = .ok (.invokevirtual 167, 3) := by decide +kernel
theorem dX5_layPad_35 : decode cX5_layPad 35 = .ok (.ifCond .ne 5, 3) := by decide +kernel
theorem dX5_layPad_38 : decode cX5_layPad 38 = .ok (.iload_n 1, 1) := by decide +kernel
theorem dX5_layPad_39 : decode cX5_layPad 39 = .ok (.ireturn, 1) := by decide +kernel
theorem dX5_layPad_40 : decode cX5_layPad 40 = .ok (.aload_n 0, 1) := by decide +kernel
theorem dX5_layPad_41 : decode cX5_layPad 41 = .ok (.getfield 20, 3) := by decide +kernel
theorem dX5_layPad_44 : decode cX5_layPad 44 = .ok (.iload_n 1, 1) := by decide +kernel
theorem dX5_layPad_45 : decode cX5_layPad 45 = .ok (.iaload, 1) := by decide +kernel
theorem dX5_layPad_46 : decode cX5_layPad 46 = .ok (.bipush 47, 2) := by decide +kernel
theorem dX5_layPad_48 : decode cX5_layPad 48 = .ok (.if_icmp .ne 34, 3) := by decide +kernel
theorem dX5_layPad_51 : decode cX5_layPad 51 = .ok (.aload_n 0, 1) := by decide +kernel
theorem dX5_layPad_52 : decode cX5_layPad 52 = .ok (.getfield 23, 3) := by decide +kernel
theorem dX5_layPad_55 : decode cX5_layPad 55 = .ok (.aload_n 0, 1) := by decide +kernel
theorem dX5_layPad_56 : decode cX5_layPad 56 = .ok (.getfield 69, 3) := by decide +kernel
theorem dX5_layPad_59 : decode cX5_layPad 59 = .ok (.aload_n 0, 1) := by decide +kernel
theorem dX5_layPad_60 : decode cX5_layPad 60 = .ok (.getfield 161, 3) := by decide +kernel
theorem dX5_layPad_63 : decode cX5_layPad 63 = .ok (.iastore, 1) := by decide +kernel
theorem dX5_layPad_64 : decode cX5_layPad 64 = .ok (.aload_n 0, 1) := by decide +kernel
theorem dX5_layPad_65 : decode cX5_layPad 65 = .ok (.dup, 1) := by decide +kernel
theorem dX5_layPad_66 : decode cX5_layPad 66 = .ok (.getfield 69, 3) := by decide +kernel
theorem dX5_layPad_69 : decode cX5_layPad 69 = .ok (.iconst 1, 1) := by decide +kernel
theorem dX5_layPad_70 : decode cX5_layPad 70 = .ok (.iadd, 1) := by decide +kernel
theorem dX5_layPad_71 : decode cX5_layPad 71 = .ok (.putfield 69, 3) := by decide +kernel
theorem dX5_layPad_74 : decode cX5_layPad 74 = .ok (.aload_n 0, 1) := by decide +kernel
theorem dX5_layPad_75 : decode cX5_layPad 75 = .ok (.iconst 0, 1) := by decide +kernel
theorem dX5_layPad_76 : decode cX5_layPad 76 = .ok (.putfield 161, 3) := by decide +kernel
theorem dX5_layPad_79 : decode cX5_layPad 79 = .ok (.goto 43, 3) := by decide +kernel
theorem dX5_layPad_82 : decode cX5_layPad 82 = .ok (.aload_n 0, 1) := by decide +kernel
theorem dX5_layPad_83 : decode cX5_layPad 83 = .ok (.dup, 1) := by decide +kernel
theorem dX5_layPad_84 : decode cX5_layPad 84 = .ok (.getfield 161, 3) := by decide +kernel
theorem dX5_layPad_87 : decode cX5_layPad 87 = .ok (.iconst 1, 1) := by decide +kernel
theorem dX5_layPad_88 : decode cX5_layPad 88 = .ok (.aload_n 0, 1) := by decide +kernel
theorem dX5_layPad_89 : decode cX5_layPad 89 = .ok (.getfield 20, 3) := by decide +kernel
theorem dX5_layPad_92 : decode cX5_layPad 92 = .ok (.iload_n 1, 1) := by decide +kernel
theorem dX5_layPad_93 : decode cX5_layPad 93 = .ok (.iaload, 1) := by decide +kernel
theorem dX5_layPad_94 : decode cX5_layPad 94 = .ok (.bipush 48, 2) := by decide +kernel
theorem dX5_layPad_96 : decode cX5_layPad 96 = .ok (.isub, 1) := by decide +kernel
theorem dX5_layPad_97 : decode cX5_layPad 97 = .ok (.ishl, 1) := by decide +kernel
theorem dX5_layPad_98 : decode cX5_layPad 98 = .ok (.ior, 1) := by decide +kernel
theorem dX5_layPad_99 : decode cX5_layPad 99 = .ok (.putfield 161, 3) := by decide +kernel
theorem dX5_layPad_102 : decode cX5_layPad 102 = .ok (.aload_n 0, 1) := by decide +kernel
theorem dX5_layPad_103 : decode cX5_layPad 103 = .ok (.dup, 1) := by decide +kernel
theorem dX5_layPad_104 : decode cX5_layPad 104 = .ok (.getfield 164, 3) := by decide +kernel
theorem dX5_layPad_107 : decode cX5_layPad 107 = .ok (.iconst 1, 1) := by decide +kernel
theorem dX5_layPad_108 : decode cX5_layPad 108 = .ok (.aload_n 0, 1) := by decide +kernel
theorem dX5_layPad_109 : decode cX5_layPad 109 = .ok (.getfield 20, 3) := by decide +kernel
theorem dX5_layPad_112 : decode cX5_layPad 112 = .ok (.iload_n 1, 1) := by decide +kernel
theorem dX5_layPad_113 : decode cX5_layPad 113 = .ok (.iaload, 1) := by decide +kernel
theorem dX5_layPad_114 : decode cX5_layPad 114 = .ok (.bipush 48, 2) := by decide +kernel
theorem dX5_layPad_116 : decode cX5_layPad 116 = .ok (.isub, 1) := by decide +kernel
theorem dX5_layPad_117 : decode cX5_layPad 117 = .ok (.ishl, 1) := by decide +kernel
theorem dX5_layPad_118 : decode cX5_layPad 118 = .ok (.ior, 1) := by decide +kernel
theorem dX5_layPad_119 : decode cX5_layPad 119 = .ok (.putfield 164, 3) := by decide +kernel
theorem dX5_layPad_122 : decode cX5_layPad 122 = .ok (.iinc 1 1, 3) := by decide +kernel
theorem dX5_layPad_125 : decode cX5_layPad 125 = .ok (.goto (-108), 3) := by decide +kernel
theorem dX5_layPad_128 : decode cX5_layPad 128 = .ok (.aload_n 0, 1) := by decide +kernel
theorem dX5_layPad_129 : decode cX5_layPad 129 = .ok (.getfield 158, 3) := by decide +kernel
theorem dX5_layPad_132 : decode cX5_layPad 132 = .ok (.ifCond .le 15, 3) := by decide +kernel
theorem dX5_layPad_135 : decode cX5_layPad 135 = .ok (.aload_n 0, 1) := by decide +kernel
theorem dX5_layPad_136 : decode cX5_layPad 136 = .ok (.getfield 161, 3) := by decide +kernel
theorem dX5_layPad_139 : decode cX5_layPad 139 = .ok (.ifCond .ne 8, 3) := by decide +kernel
theorem dX5_layPad_142 : decode cX5_layPad 142 = .ok (.aload_n 0, 1) := by decide +kernel
theorem dX5_layPad_143 : decode cX5_layPad 143 = .ok (.getfield 158, 3) := by decide +kernel
theorem dX5_layPad_146 : decode cX5_layPad 146 = .ok (.ireturn, 1) := by decide +kernel
theorem dX5_layPad_147 : decode cX5_layPad 147 = .ok (.aload_n 0, 1) := by decide +kernel
theorem dX5_layPad_148 : decode cX5_layPad 148 = .ok (.getfield 158, 3) := by decide +kernel
theorem dX5_layPad_151 : decode cX5_layPad 151 = .ok (.ifCond .le 26, 3) := by decide +kernel
theorem dX5_layPad_154 : decode cX5_layPad 154 = .ok (.aload_n 0, 1) := by decide +kernel
theorem dX5_layPad_155 : decode cX5_layPad 155 = .ok (.getfield 23, 3) := by decide +kernel
theorem dX5_layPad_158 : decode cX5_layPad 158 = .ok (.aload_n 0, 1) := by decide +kernel
theorem dX5_layPad_159 : decode cX5_layPad 159 = .ok (.getfield 69, 3) := by decide +kernel
theorem dX5_layPad_162 : decode cX5_layPad 162 = .ok (.aload_n 0, 1) := by decide +kernel
theorem dX5_layPad_163 : decode cX5_layPad 163 = .ok (.getfield 161, 3) := by decide +kernel
theorem dX5_layPad_166 : decode cX5_layPad 166 = .ok (.iastore, 1) := by decide +kernel
theorem dX5_layPad_167 : decode cX5_layPad 167 = .ok (.aload_n 0, 1) := by decide +kernel
theorem dX5_layPad_168 : decode cX5_layPad 168 = .ok (.dup, 1) := by decide +kernel
theorem dX5_layPad_169 : decode cX5_layPad 169 = .ok (.getfield 69, 3) := by decide +kernel
theorem dX5_layPad_172 : decode cX5_layPad 172 = .ok (.iconst 1, 1) := by decide +kernel
theorem dX5_layPad_173 : decode cX5_layPad 173 = .ok (.iadd, 1) := by decide +kernel
theorem dX5_layPad_174 : decode cX5_layPad 174 = .ok (.putfield 69, 3) := by decide +kernel
theorem dX5_layPad_177 : decode cX5_layPad 177 = .ok (.bipush (-6), 2) := by decide +kernel
theorem dX5_layPad_179 : decode cX5_layPad 179 = .ok (.ireturn, 1) := by decide +kernel
theorem dX5_fault_0 : decode cX5_fault 0 = .ok (.aload_n 0, 1) := by decide +kernel
theorem dX5_fault_1 : decode cX5_fault 1 = .ok (.invokevirtual 170, 3) := by decide +kernel
theorem dX5_fault_4 : decode cX5_fault 4 = .ok (.ireturn, 1) := by decide +kernel
theorem dX5_row_0 : decode cX5_row 0 = .ok (.iload_n 1, 1) := by decide +kernel
theorem dX5_row_1 : decode cX5_row 1 = .ok (.iconst 0, 1) := by decide +kernel
theorem dX5_row_2 : decode cX5_row 2 = .ok (.iconst 4, 1) := by decide +kernel
theorem dX5_row_3 : decode cX5_row 3 = .ok (.invokestatic 39, 3) := by decide +kernel
theorem dX5_row_6 : decode cX5_row 6 = .ok (.ifCond .ne 6, 3) := by decide +kernel
theorem dX5_row_9 : decode cX5_row 9 = .ok (.bipush (-2), 2) := by decide +kernel
theorem dX5_row_11 : decode cX5_row 11 = .ok (.ireturn, 1) := by decide +kernel
theorem dX5_row_12 : decode cX5_row 12 = .ok (.aload_n 0, 1) := by decide +kernel
theorem dX5_row_13 : decode cX5_row 13 = .ok (.invokevirtual 170, 3) := by decide +kernel
theorem dX5_row_16 : decode cX5_row 16 = .ok (.ifCond .lt 6, 3) := by decide +kernel
theorem dX5_row_19 : decode cX5_row 19 = .ok (.bipush (-7), 2) := by decide +kernel
theorem dX5_row_21 : decode cX5_row 21 = .ok (.ireturn, 1) := by decide +kernel
theorem dX5_row_22 : decode cX5_row 22 = .ok (.iload_n 1, 1) := by decide +kernel
theorem dX5_row_23 : decode cX5_row 23 = .ok (.iconst 4, 1) := by decide +kernel
theorem dX5_row_24 : decode cX5_row 24 = .ok (.if_icmp .ne 10, 3) := by decide +kernel
theorem dX5_row_27 : decode cX5_row 27 = .ok (.aload_n 0, 1) := by decide +kernel
theorem dX5_row_28 : decode cX5_row 28 = .ok (.getfield 164, 3) := by decide +kernel
theorem dX5_row_31 : decode cX5_row 31 = .ok (.goto 8, 3) := by decide +kernel
theorem dX5_row_34 : decode cX5_row 34 = .ok (.aload_n 0, 1) := by decide +kernel
theorem dX5_row_35 : decode cX5_row 35 = .ok (.iload_n 1, 1) := by decide +kernel
theorem dX5_row_36 : decode cX5_row 36 = .ok (.invokevirtual 155, 3) := by decide +kernel
theorem dX5_row_39 : decode cX5_row 39 = .ok (.ireturn, 1) := by decide +kernel
theorem dX5_at_0 : decode cX5_at 0 = .ok (.aload_n 0, 1) := by decide +kernel
theorem dX5_at_1 : decode cX5_at 1 = .ok (.iload_n 1, 1) := by decide +kernel
theorem dX5_at_2 : decode cX5_at 2 = .ok (.invokevirtual 51, 3) := by decide +kernel
theorem dX5_at_5 : decode cX5_at 5 = .ok (.ifCond .ne 5, 3) := by decide +kernel
theorem dX5_at_8 : decode cX5_at 8 = .ok (.iconst (-1), 1) := by decide +kernel
theorem dX5_at_9 : decode cX5_at 9 = .ok (.ireturn, 1) := by decide +kernel
theorem dX5_at_10 : decode cX5_at 10 = .ok (.aload_n 0, 1) := by decide +kernel
theorem dX5_at_11 : decode cX5_at 11 = .ok (.invokevirtual 170, 3) := by decide +kernel
theorem dX5_at_14 : decode cX5_at 14 = .ok (.ifCond .lt 6, 3) := by decide +kernel
theorem dX5_at_17 : decode cX5_at 17 = .ok (.bipush (-7), 2) := by decide +kernel
theorem dX5_at_19 : decode cX5_at 19 = .ok (.ireturn, 1) := by decide +kernel
theorem dX5_at_20 : decode cX5_at 20 = .ok (.aload_n 0, 1) := by decide +kernel
theorem dX5_at_21 : decode cX5_at 21 = .ok (.invokevirtual 80, 3) := by decide +kernel
theorem dX5_at_24 : decode cX5_at 24 = .ok (.aload_n 0, 1) := by decide +kernel
theorem dX5_at_25 : decode cX5_at 25 = .ok (.iload_n 1, 1) := by decide +kernel
theorem dX5_at_26 : decode cX5_at 26 = .ok (.invokevirtual 139, 3) := by decide +kernel
theorem dX5_at_29 : decode cX5_at 29 = .ok (.istore_n 2, 1) := by decide +kernel
theorem dX5_at_30 : decode cX5_at 30 = .ok (.iload_n 2, 1) := by decide +kernel
theorem dX5_at_31 : decode cX5_at 31 = .ok (.ifCond .ge 8, 3) := by decide +kernel
theorem dX5_at_34 : decode cX5_at 34 = .ok (.bipush (-6), 2) := by decide +kernel
theorem dX5_at_36 : decode cX5_at 36 = .ok (.goto 9, 3) := by decide +kernel
theorem dX5_at_39 : decode cX5_at 39 = .ok (.aload_n 0, 1) := by decide +kernel
theorem dX5_at_40 : decode cX5_at 40 = .ok (.getfield 26, 3) := by decide +kernel
theorem dX5_at_43 : decode cX5_at 43 = .ok (.iload_n 2, 1) := by decide +kernel
theorem dX5_at_44 : decode cX5_at 44 = .ok (.iaload, 1) := by decide +kernel
theorem dX5_at_45 : decode cX5_at 45 = .ok (.ireturn, 1) := by decide +kernel
theorem dX5_putAhead_0 : decode cX5_putAhead 0 = .ok (.aload_n 0, 1) := by decide +kernel
theorem dX5_putAhead_1 : decode cX5_putAhead 1 = .ok (.getfield 69, 3) := by decide +kernel
theorem dX5_putAhead_4 : decode cX5_putAhead 4 = .ok (.istore_n 3, 1) := by decide +kernel
theorem dX5_putAhead_5 : decode cX5_putAhead 5 = .ok (.iload_n 3, 1) := by decide +kernel
theorem dX5_putAhead_6 : decode cX5_putAhead 6 = .ok (.iload_n 1, 1) := by decide +kernel
theorem dX5_putAhead_7 : decode cX5_putAhead 7 = .ok (.if_icmp .le 23, 3) := by decide +kernel
theorem dX5_putAhead_10 : decode cX5_putAhead 10 = .ok (.aload_n 0, 1) := by decide +kernel
theorem dX5_putAhead_11 : decode cX5_putAhead 11 = .ok (.getfield 23, 3) := by decide +kernel
theorem dX5_putAhead_14 : decode cX5_putAhead 14 = .ok (.iload_n 3, 1) := by decide +kernel
theorem dX5_putAhead_15 : decode cX5_putAhead 15 = .ok (.aload_n 0, 1) := by decide +kernel
theorem dX5_putAhead_16 : decode cX5_putAhead 16 = .ok (.getfield 23, 3) := by decide +kernel
theorem dX5_putAhead_19 : decode cX5_putAhead 19 = .ok (.iload_n 3, 1) := by decide +kernel
theorem dX5_putAhead_20 : decode cX5_putAhead 20 = .ok (.iconst 1, 1) := by decide +kernel
theorem dX5_putAhead_21 : decode cX5_putAhead 21 = .ok (.isub, 1) := by decide +kernel
theorem dX5_putAhead_22 : decode cX5_putAhead 22 = .ok (.iaload, 1) := by decide +kernel
theorem dX5_putAhead_23 : decode cX5_putAhead 23 = .ok (.iastore, 1) := by decide +kernel
theorem dX5_putAhead_24 : decode cX5_putAhead 24 = .ok (.iinc 3 (-1), 3) := by decide +kernel
theorem dX5_putAhead_27 : decode cX5_putAhead 27 = .ok (.goto (-22), 3) := by decide +kernel
theorem dX5_putAhead_30 : decode cX5_putAhead 30 = .ok (.aload_n 0, 1) := by decide +kernel
theorem dX5_putAhead_31 : decode cX5_putAhead 31 = .ok (.getfield 23, 3) := by decide +kernel
theorem dX5_putAhead_34 : decode cX5_putAhead 34 = .ok (.iload_n 1, 1) := by decide +kernel
theorem dX5_putAhead_35 : decode cX5_putAhead 35 = .ok (.iconst 1, 1) := by decide +kernel
theorem dX5_putAhead_36 : decode cX5_putAhead 36 = .ok (.iload_n 2, 1) := by decide +kernel
theorem dX5_putAhead_37 : decode cX5_putAhead 37 = .ok (.ishl, 1) := by decide +kernel
theorem dX5_putAhead_38 : decode cX5_putAhead 38 = .ok (.iastore, 1) := by decide +kernel
theorem dX5_putAhead_39 : decode cX5_putAhead 39 = .ok (.aload_n 0, 1) := by decide +kernel
theorem dX5_putAhead_40 : decode cX5_putAhead 40 = .ok (.dup, 1) := by decide +kernel
theorem dX5_putAhead_41 : decode cX5_putAhead 41 = .ok (.getfield 69, 3) := by decide +kernel
theorem dX5_putAhead_44 : decode cX5_putAhead 44 = .ok (.iconst 1, 1) := by decide +kernel
theorem dX5_putAhead_45 : decode cX5_putAhead 45 = .ok (.iadd, 1) := by decide +kernel
theorem dX5_putAhead_46 : decode cX5_putAhead 46 = .ok (.putfield 69, 3) := by decide +kernel
theorem dX5_putAhead_49 : decode cX5_putAhead 49 = .ok (.return_, 1) := by decide +kernel
theorem dX5_putAt_0 : decode cX5_putAt 0 = .ok (.aload_n 0, 1) := by decide +kernel
theorem dX5_putAt_1 : decode cX5_putAt 1 = .ok (.invokevirtual 170, 3) := by decide +kernel
theorem dX5_putAt_4 : decode cX5_putAt 4 = .ok (.pop, 1) := by decide +kernel
theorem dX5_putAt_5 : decode cX5_putAt 5 = .ok (.iload_n 1, 1) := by decide +kernel
theorem dX5_putAt_6 : decode cX5_putAt 6 = .ok (.iconst 2, 1) := by decide +kernel
theorem dX5_putAt_7 : decode cX5_putAt 7 = .ok (.idiv, 1) := by decide +kernel
theorem dX5_putAt_8 : decode cX5_putAt 8 = .ok (.istore_n 3, 1) := by decide +kernel
theorem dX5_putAt_9 : decode cX5_putAt 9 = .ok (.iload_n 1, 1) := by decide +kernel
theorem dX5_putAt_10 : decode cX5_putAt 10 = .ok (.iconst 2, 1) := by decide +kernel
theorem dX5_putAt_11 : decode cX5_putAt 11 = .ok (.irem, 1) := by decide +kernel
theorem dX5_putAt_12 : decode cX5_putAt 12 = .ok (.ifCond .ne 11, 3) := by decide +kernel
theorem dX5_putAt_15 : decode cX5_putAt 15 = .ok (.aload_n 0, 1) := by decide +kernel
theorem dX5_putAt_16 : decode cX5_putAt 16 = .ok (.iload_n 3, 1) := by decide +kernel
theorem dX5_putAt_17 : decode cX5_putAt 17 = .ok (.iload_n 2, 1) := by decide +kernel
theorem dX5_putAt_18 : decode cX5_putAt 18 = .ok (.invokevirtual 173, 3) := by decide +kernel
theorem dX5_putAt_21 : decode cX5_putAt 21 = .ok (.iconst 1, 1) := by decide +kernel
theorem dX5_putAt_22 : decode cX5_putAt 22 = .ok (.ireturn, 1) := by decide +kernel
theorem dX5_putAt_23 : decode cX5_putAt 23 = .ok (.aload_n 0, 1) := by decide +kernel
theorem dX5_putAt_24 : decode cX5_putAt 24 = .ok (.getfield 23, 3) := by decide +kernel
theorem dX5_putAt_27 : decode cX5_putAt 27 = .ok (.iload_n 3, 1) := by decide +kernel
theorem dX5_putAt_28 : decode cX5_putAt 28 = .ok (.iaload, 1) := by decide +kernel
theorem dX5_putAt_29 : decode cX5_putAt 29 = .ok (.iconst 1, 1) := by decide +kernel
theorem dX5_putAt_30 : decode cX5_putAt 30 = .ok (.iload_n 2, 1) := by decide +kernel
theorem dX5_putAt_31 : decode cX5_putAt 31 = .ok (.ishl, 1) := by decide +kernel
theorem dX5_putAt_32 : decode cX5_putAt 32 = .ok (.ior, 1) := by decide +kernel
theorem dX5_putAt_33 : decode cX5_putAt 33 = .ok (.istore 4, 2) := by decide +kernel
theorem dX5_putAt_35 : decode cX5_putAt 35 = .ok (.aload_n 0, 1) := by decide +kernel
theorem dX5_putAt_36 : decode cX5_putAt 36 = .ok (.getfield 23, 3) := by decide +kernel
theorem dX5_putAt_39 : decode cX5_putAt 39 = .ok (.iload_n 3, 1) := by decide +kernel
theorem dX5_putAt_40 : decode cX5_putAt 40 = .ok (.iload 4, 2) := by decide +kernel
theorem dX5_putAt_42 : decode cX5_putAt 42 = .ok (.iastore, 1) := by decide +kernel
theorem dX5_putAt_43 : decode cX5_putAt 43 = .ok (.aload_n 0, 1) := by decide +kernel
theorem dX5_putAt_44 : decode cX5_putAt 44 = .ok (.iload 4, 2) := by decide +kernel
theorem dX5_putAt_46 : decode cX5_putAt 46 = .ok (.invokevirtual 73, 3) := by decide +kernel
theorem dX5_putAt_49 : decode cX5_putAt 49 = .ok (.ifCond .lt 23, 3) := by decide +kernel
theorem dX5_putAt_52 : decode cX5_putAt 52 = .ok (.aload_n 0, 1) := by decide +kernel
theorem dX5_putAt_53 : decode cX5_putAt 53 = .ok (.iload 4, 2) := by decide +kernel
theorem dX5_putAt_55 : decode cX5_putAt 55 = .ok (.invokevirtual 92, 3) := by decide +kernel
theorem dX5_putAt_58 : decode cX5_putAt 58 = .ok (.aload_n 0, 1) := by decide +kernel
theorem dX5_putAt_59 : decode cX5_putAt 59 = .ok (.getfield 7, 3) := by decide +kernel
theorem dX5_putAt_62 : decode cX5_putAt 62 = .ok (.bipush 6, 2) := by decide +kernel
theorem dX5_putAt_64 : decode cX5_putAt 64 = .ok (.iaload, 1) := by decide +kernel
theorem dX5_putAt_65 : decode cX5_putAt 65 = .ok (.if_icmp .gt 7, 3) := by decide +kernel
theorem dX5_putAt_68 : decode cX5_putAt 68 = .ok (.iconst 1, 1) := by decide +kernel
theorem dX5_putAt_69 : decode cX5_putAt 69 = .ok (.goto 4, 3) := by decide +kernel
theorem dX5_putAt_72 : decode cX5_putAt 72 = .ok (.iconst 0, 1) := by decide +kernel
theorem dX5_putAt_73 : decode cX5_putAt 73 = .ok (.ireturn, 1) := by decide +kernel
theorem dX5_put_0 : decode cX5_put 0 = .ok (.aload_n 0, 1) := by decide +kernel
theorem dX5_put_1 : decode cX5_put 1 = .ok (.iload_n 1, 1) := by decide +kernel
theorem dX5_put_2 : decode cX5_put 2 = .ok (.invokevirtual 51, 3) := by decide +kernel
theorem dX5_put_5 : decode cX5_put 5 = .ok (.ifCond .ne 5, 3) := by decide +kernel
theorem dX5_put_8 : decode cX5_put 8 = .ok (.iconst (-1), 1) := by decide +kernel
theorem dX5_put_9 : decode cX5_put 9 = .ok (.ireturn, 1) := by decide +kernel
theorem dX5_put_10 : decode cX5_put 10 = .ok (.iload_n 2, 1) := by decide +kernel
theorem dX5_put_11 : decode cX5_put 11 = .ok (.iconst 0, 1) := by decide +kernel
theorem dX5_put_12 : decode cX5_put 12 = .ok (.iconst 1, 1) := by decide +kernel
theorem dX5_put_13 : decode cX5_put 13 = .ok (.invokestatic 39, 3) := by decide +kernel
theorem dX5_put_16 : decode cX5_put 16 = .ok (.ifCond .ne 6, 3) := by decide +kernel
theorem dX5_put_19 : decode cX5_put 19 = .ok (.bipush (-2), 2) := by decide +kernel
theorem dX5_put_21 : decode cX5_put 21 = .ok (.ireturn, 1) := by decide +kernel
theorem dX5_put_22 : decode cX5_put 22 = .ok (.aload_n 0, 1) := by decide +kernel
theorem dX5_put_23 : decode cX5_put 23 = .ok (.invokevirtual 170, 3) := by decide +kernel
theorem dX5_put_26 : decode cX5_put 26 = .ok (.ifCond .lt 6, 3) := by decide +kernel
theorem dX5_put_29 : decode cX5_put 29 = .ok (.bipush (-7), 2) := by decide +kernel
theorem dX5_put_31 : decode cX5_put 31 = .ok (.ireturn, 1) := by decide +kernel
theorem dX5_put_32 : decode cX5_put 32 = .ok (.aload_n 0, 1) := by decide +kernel
theorem dX5_put_33 : decode cX5_put 33 = .ok (.getfield 164, 3) := by decide +kernel
theorem dX5_put_36 : decode cX5_put 36 = .ok (.iload_n 1, 1) := by decide +kernel
theorem dX5_put_37 : decode cX5_put 37 = .ok (.invokestatic 62, 3) := by decide +kernel
theorem dX5_put_40 : decode cX5_put 40 = .ok (.ifCond .eq 6, 3) := by decide +kernel
theorem dX5_put_43 : decode cX5_put 43 = .ok (.bipush (-3), 2) := by decide +kernel
theorem dX5_put_45 : decode cX5_put 45 = .ok (.ireturn, 1) := by decide +kernel
theorem dX5_put_46 : decode cX5_put 46 = .ok (.iconst 2, 1) := by decide +kernel
theorem dX5_put_47 : decode cX5_put 47 = .ok (.aload_n 0, 1) := by decide +kernel
theorem dX5_put_48 : decode cX5_put 48 = .ok (.getfield 69, 3) := by decide +kernel
theorem dX5_put_51 : decode cX5_put 51 = .ok (.imul, 1) := by decide +kernel
theorem dX5_put_52 : decode cX5_put 52 = .ok (.iconst 1, 1) := by decide +kernel
theorem dX5_put_53 : decode cX5_put 53 = .ok (.iadd, 1) := by decide +kernel
theorem dX5_put_54 : decode cX5_put 54 = .ok (.istore_n 3, 1) := by decide +kernel
theorem dX5_put_55 : decode cX5_put 55 = .ok (.bipush (-6), 2) := by decide +kernel
theorem dX5_put_57 : decode cX5_put 57 = .ok (.istore 4, 2) := by decide +kernel
theorem dX5_put_59 : decode cX5_put 59 = .ok (.iconst 0, 1) := by decide +kernel
theorem dX5_put_60 : decode cX5_put 60 = .ok (.istore 5, 2) := by decide +kernel
theorem dX5_put_62 : decode cX5_put 62 = .ok (.iconst 0, 1) := by decide +kernel
theorem dX5_put_63 : decode cX5_put 63 = .ok (.istore 6, 2) := by decide +kernel
theorem dX5_put_65 : decode cX5_put 65 = .ok (.iload 6, 2) := by decide +kernel
theorem dX5_put_67 : decode cX5_put 67 = .ok (.iload_n 3, 1) := by decide +kernel
theorem dX5_put_68 : decode cX5_put 68 = .ok (.if_icmp .ge 46, 3) := by decide +kernel
theorem dX5_put_71 : decode cX5_put 71 = .ok (.aload_n 0, 1) := by decide +kernel
theorem dX5_put_72 : decode cX5_put 72 = .ok (.iload 6, 2) := by decide +kernel
theorem dX5_put_74 : decode cX5_put 74 = .ok (.iload_n 1, 1) := by decide +kernel
theorem dX5_put_75 : decode cX5_put 75 = .ok (.invokevirtual 177, 3) := by decide +kernel
theorem dX5_put_78 : decode cX5_put 78 = .ok (.ifCond .eq 30, 3) := by decide +kernel
theorem dX5_put_81 : decode cX5_put 81 = .ok (.aload_n 0, 1) := by decide +kernel
theorem dX5_put_82 : decode cX5_put 82 = .ok (.iconst 1, 1) := by decide +kernel
theorem dX5_put_83 : decode cX5_put 83 = .ok (.invokevirtual 155, 3) := by decide +kernel
theorem dX5_put_86 : decode cX5_put 86 = .ok (.istore 7, 2) := by decide +kernel
theorem dX5_put_88 : decode cX5_put 88 = .ok (.iload 4, 2) := by decide +kernel
theorem dX5_put_90 : decode cX5_put 90 = .ok (.ifCond .lt 10, 3) := by decide +kernel
theorem dX5_put_93 : decode cX5_put 93 = .ok (.iload 7, 2) := by decide +kernel
theorem dX5_put_95 : decode cX5_put 95 = .ok (.iload 5, 2) := by decide +kernel
theorem dX5_put_97 : decode cX5_put 97 = .ok (.if_icmp .ge 11, 3) := by decide +kernel
theorem dX5_put_100 : decode cX5_put 100 = .ok (.iload 6, 2) := by decide +kernel
theorem dX5_put_102 : decode cX5_put 102 = .ok (.istore 4, 2) := by decide +kernel
theorem dX5_put_104 : decode cX5_put 104 = .ok (.iload 7, 2) := by decide +kernel
theorem dX5_put_106 : decode cX5_put 106 = .ok (.istore 5, 2) := by decide +kernel
theorem dX5_put_108 : decode cX5_put 108 = .ok (.iinc 6 1, 3) := by decide +kernel
theorem dX5_put_111 : decode cX5_put 111 = .ok (.goto (-46), 3) := by decide +kernel
theorem dX5_put_114 : decode cX5_put 114 = .ok (.iload_n 2, 1) := by decide +kernel
theorem dX5_put_115 : decode cX5_put 115 = .ok (.ifCond .ne 8, 3) := by decide +kernel
theorem dX5_put_118 : decode cX5_put 118 = .ok (.iload 5, 2) := by decide +kernel
theorem dX5_put_120 : decode cX5_put 120 = .ok (.goto 5, 3) := by decide +kernel
theorem dX5_put_123 : decode cX5_put 123 = .ok (.iload 4, 2) := by decide +kernel
theorem dX5_put_125 : decode cX5_put 125 = .ok (.ireturn, 1) := by decide +kernel
theorem dX5_image_0 : decode cX5_image 0 = .ok (.iload_n 1, 1) := by decide +kernel
theorem dX5_image_1 : decode cX5_image 1 = .ok (.iconst 0, 1) := by decide +kernel
theorem dX5_image_2 : decode cX5_image 2 = .ok (.iconst 1, 1) := by decide +kernel
theorem dX5_image_3 : decode cX5_image 3 = .ok (.invokestatic 39, 3) := by decide +kernel
theorem dX5_image_6 : decode cX5_image 6 = .ok (.ifCond .ne 6, 3) := by decide +kernel
theorem dX5_image_9 : decode cX5_image 9 = .ok (.bipush (-2), 2) := by decide +kernel
theorem dX5_image_11 : decode cX5_image 11 = .ok (.ireturn, 1) := by decide +kernel
theorem dX5_image_12 : decode cX5_image 12 = .ok (.iconst 0, 1) := by decide +kernel
theorem dX5_image_13 : decode cX5_image 13 = .ok (.istore_n 2, 1) := by decide +kernel
theorem dX5_image_14 : decode cX5_image 14 = .ok (.iload_n 2, 1) := by decide +kernel
theorem dX5_image_15 : decode cX5_image 15 = .ok (.bipush 31, 2) := by decide +kernel
theorem dX5_image_17 : decode cX5_image 17 = .ok (.if_icmp .ge 26, 3) := by decide +kernel
theorem dX5_image_20 : decode cX5_image 20 = .ok (.aload_n 0, 1) := by decide +kernel
theorem dX5_image_21 : decode cX5_image 21 = .ok (.getfield 13, 3) := by decide +kernel
theorem dX5_image_24 : decode cX5_image 24 = .ok (.bipush 31, 2) := by decide +kernel
theorem dX5_image_26 : decode cX5_image 26 = .ok (.iload_n 1, 1) := by decide +kernel
theorem dX5_image_27 : decode cX5_image 27 = .ok (.imul, 1) := by decide +kernel
theorem dX5_image_28 : decode cX5_image 28 = .ok (.iload_n 2, 1) := by decide +kernel
theorem dX5_image_29 : decode cX5_image 29 = .ok (.iadd, 1) := by decide +kernel
theorem dX5_image_30 : decode cX5_image 30 = .ok (.aload_n 0, 1) := by decide +kernel
theorem dX5_image_31 : decode cX5_image 31 = .ok (.getfield 7, 3) := by decide +kernel
theorem dX5_image_34 : decode cX5_image 34 = .ok (.iload_n 2, 1) := by decide +kernel
theorem dX5_image_35 : decode cX5_image 35 = .ok (.iaload, 1) := by decide +kernel
theorem dX5_image_36 : decode cX5_image 36 = .ok (.iastore, 1) := by decide +kernel
theorem dX5_image_37 : decode cX5_image 37 = .ok (.iinc 2 1, 3) := by decide +kernel
theorem dX5_image_40 : decode cX5_image 40 = .ok (.goto (-26), 3) := by decide +kernel
theorem dX5_image_43 : decode cX5_image 43 = .ok (.aload_n 0, 1) := by decide +kernel
theorem dX5_image_44 : decode cX5_image 44 = .ok (.getfield 16, 3) := by decide +kernel
theorem dX5_image_47 : decode cX5_image 47 = .ok (.iload_n 1, 1) := by decide +kernel
theorem dX5_image_48 : decode cX5_image 48 = .ok (.iconst 1, 1) := by decide +kernel
theorem dX5_image_49 : decode cX5_image 49 = .ok (.bastore, 1) := by decide +kernel
theorem dX5_image_50 : decode cX5_image 50 = .ok (.iconst 1, 1) := by decide +kernel
theorem dX5_image_51 : decode cX5_image 51 = .ok (.ireturn, 1) := by decide +kernel
theorem dX5_restore_0 : decode cX5_restore 0 = .ok (.iload_n 1, 1) := by decide +kernel
theorem dX5_restore_1 : decode cX5_restore 1 = .ok (.iconst 0, 1) := by decide +kernel
theorem dX5_restore_2 : decode cX5_restore 2 = .ok (.iconst 1, 1) := by decide +kernel
theorem dX5_restore_3 : decode cX5_restore 3 = .ok (.invokestatic 39, 3) := by decide +kernel
theorem dX5_restore_6 : decode cX5_restore 6 = .ok (.ifCond .ne 6, 3) := by decide +kernel
theorem dX5_restore_9 : decode cX5_restore 9 = .ok (.bipush (-2), 2) := by decide +kernel
theorem dX5_restore_11 : decode cX5_restore 11 = .ok (.ireturn, 1) := by decide +kernel
theorem dX5_restore_12 : decode cX5_restore 12 = .ok (.aload_n 0, 1) := by decide +kernel
theorem dX5_restore_13 : decode cX5_restore 13 = .ok (.getfield 16, 3) := by decide +kernel
theorem dX5_restore_16 : decode cX5_restore 16 = .ok (.iload_n 1, 1) := by decide +kernel
theorem dX5_restore_17 : decode cX5_restore 17 = .ok (.baload, 1) := by decide +kernel
theorem dX5_restore_18 : decode cX5_restore 18 = .ok (.ifCond .ne 6, 3) := by decide +kernel
theorem dX5_restore_21 : decode cX5_restore 21 = .ok (.bipush (-3), 2) := by decide +kernel
theorem dX5_restore_23 : decode cX5_restore 23 = .ok (.ireturn, 1) := by decide +kernel
theorem dX5_restore_24 : decode cX5_restore 24 = .ok (.iconst 0, 1) := by decide +kernel
theorem dX5_restore_25 : decode cX5_restore 25 = .ok (.istore_n 2, 1) := by decide +kernel
theorem dX5_restore_26 : decode cX5_restore 26 = .ok (.iload_n 2, 1) := by decide +kernel
theorem dX5_restore_27 : decode cX5_restore 27 = .ok (.bipush 31, 2) := by decide +kernel
theorem dX5_restore_29 : decode cX5_restore 29 = .ok (.if_icmp .ge 26, 3) := by decide +kernel
theorem dX5_restore_32 : decode cX5_restore 32 = .ok (.aload_n 0, 1) := by decide +kernel
theorem dX5_restore_33 : decode cX5_restore 33 = .ok (.getfield 7, 3) := by decide +kernel
theorem dX5_restore_36 : decode cX5_restore 36 = .ok (.iload_n 2, 1) := by decide +kernel
theorem dX5_restore_37 : decode cX5_restore 37 = .ok (.aload_n 0, 1) := by decide +kernel
theorem dX5_restore_38 : decode cX5_restore 38 = .ok (.getfield 13, 3) := by decide +kernel
theorem dX5_restore_41 : decode cX5_restore 41 = .ok (.bipush 31, 2) := by decide +kernel
theorem dX5_restore_43 : decode cX5_restore 43 = .ok (.iload_n 1, 1) := by decide +kernel
theorem dX5_restore_44 : decode cX5_restore 44 = .ok (.imul, 1) := by decide +kernel
theorem dX5_restore_45 : decode cX5_restore 45 = .ok (.iload_n 2, 1) := by decide +kernel
theorem dX5_restore_46 : decode cX5_restore 46 = .ok (.iadd, 1) := by decide +kernel
theorem dX5_restore_47 : decode cX5_restore 47 = .ok (.iaload, 1) := by decide +kernel
theorem dX5_restore_48 : decode cX5_restore 48 = .ok (.iastore, 1) := by decide +kernel
theorem dX5_restore_49 : decode cX5_restore 49 = .ok (.iinc 2 1, 3) := by decide +kernel
theorem dX5_restore_52 : decode cX5_restore 52 = .ok (.goto (-26), 3) := by decide +kernel
theorem dX5_restore_55 : decode cX5_restore 55 = .ok (.iconst 1, 1) := by decide +kernel
theorem dX5_restore_56 : decode cX5_restore 56 = .ok (.ireturn, 1) := by decide +kernel
theorem dX5_familiesUsed_0 : decode cX5_familiesUsed 0 = .ok (.iconst 0, 1) := by decide +kernel
theorem dX5_familiesUsed_1 : decode cX5_familiesUsed 1 = .ok (.istore_n 1, 1) := by decide +kernel
theorem dX5_familiesUsed_2 : decode cX5_familiesUsed 2 = .ok (.iconst 0, 1) := by decide +kernel
theorem dX5_familiesUsed_3 : decode cX5_familiesUsed 3 = .ok (.istore_n 2, 1) := by decide +kernel
theorem dX5_familiesUsed_4 : decode cX5_familiesUsed 4 = .ok (.iload_n 2, 1) := by decide +kernel
theorem dX5_familiesUsed_5 : decode cX5_familiesUsed 5 = .ok (.aload_n 0, 1) := by decide +kernel
theorem dX5_familiesUsed_6 : decode cX5_familiesUsed 6 = .ok (.invokevirtual 43, 3) := by decide +kernel
theorem dX5_familiesUsed_9 : decode cX5_familiesUsed 9 = .ok (.if_icmp .ge 23, 3) := by decide +kernel
theorem dX5_familiesUsed_12 : decode cX5_familiesUsed 12 = .ok (.iload_n 1, 1) := by decide +kernel
theorem dX5_familiesUsed_13 : decode cX5_familiesUsed 13 = .ok (.iconst 1, 1) := by decide +kernel
theorem dX5_familiesUsed_14 : decode cX5_familiesUsed 14 = .ok (.aload_n 0, 1) := by decide +kernel
theorem dX5_familiesUsed_15 : decode cX5_familiesUsed 15 = .ok (.getfield 7, 3) := by decide +kernel
theorem dX5_familiesUsed_18 : decode cX5_familiesUsed 18 = .ok (.bipush 10, 2) := by decide +kernel
theorem dX5_familiesUsed_20 : decode cX5_familiesUsed 20 = .ok (.iload_n 2, 1) := by decide +kernel
theorem dX5_familiesUsed_21 : decode cX5_familiesUsed 21 = .ok (.iadd, 1) := by decide +kernel
theorem dX5_familiesUsed_22 : decode cX5_familiesUsed 22 = .ok (.iaload, 1) := by decide +kernel
theorem dX5_familiesUsed_23 : decode cX5_familiesUsed 23 = .ok (.ishl, 1) := by decide +kernel
theorem dX5_familiesUsed_24 : decode cX5_familiesUsed 24 = .ok (.ior, 1) := by decide +kernel
theorem dX5_familiesUsed_25 : decode cX5_familiesUsed 25 = .ok (.istore_n 1, 1) := by decide +kernel
theorem dX5_familiesUsed_26 : decode cX5_familiesUsed 26 = .ok (.iinc 2 1, 3) := by decide +kernel
theorem dX5_familiesUsed_29 : decode cX5_familiesUsed 29 = .ok (.goto (-25), 3) := by decide +kernel
theorem dX5_familiesUsed_32 : decode cX5_familiesUsed 32 = .ok (.iload_n 1, 1) := by decide +kernel
theorem dX5_familiesUsed_33 : decode cX5_familiesUsed 33 = .ok (.iconst 1, 1) := by decide +kernel
theorem dX5_familiesUsed_34 : decode cX5_familiesUsed 34 = .ok (.iand, 1) := by decide +kernel
theorem dX5_familiesUsed_35 : decode cX5_familiesUsed 35 = .ok (.iload_n 1, 1) := by decide +kernel
theorem dX5_familiesUsed_36 : decode cX5_familiesUsed 36 = .ok (.iconst 1, 1) := by decide +kernel
theorem dX5_familiesUsed_37 : decode cX5_familiesUsed 37 = .ok (.ishr, 1) := by decide +kernel
theorem dX5_familiesUsed_38 : decode cX5_familiesUsed 38 = .ok (.iconst 1, 1) := by decide +kernel
theorem dX5_familiesUsed_39 : decode cX5_familiesUsed 39 = .ok (.iand, 1) := by decide +kernel
theorem dX5_familiesUsed_40 : decode cX5_familiesUsed 40 = .ok (.iadd, 1) := by decide +kernel
theorem dX5_familiesUsed_41 : decode cX5_familiesUsed 41 = .ok (.iload_n 1, 1) := by decide +kernel
theorem dX5_familiesUsed_42 : decode cX5_familiesUsed 42 = .ok (.iconst 2, 1) := by decide +kernel
theorem dX5_familiesUsed_43 : decode cX5_familiesUsed 43 = .ok (.ishr, 1) := by decide +kernel
theorem dX5_familiesUsed_44 : decode cX5_familiesUsed 44 = .ok (.iconst 1, 1) := by decide +kernel
theorem dX5_familiesUsed_45 : decode cX5_familiesUsed 45 = .ok (.iand, 1) := by decide +kernel
theorem dX5_familiesUsed_46 : decode cX5_familiesUsed 46 = .ok (.iadd, 1) := by decide +kernel
theorem dX5_familiesUsed_47 : decode cX5_familiesUsed 47 = .ok (.ireturn, 1) := by decide +kernel
theorem dX5_count_0 : decode cX5_count 0 = .ok (.iload_n 1, 1) := by decide +kernel
theorem dX5_count_1 : decode cX5_count 1 = .ok (.bipush 10, 2) := by decide +kernel
theorem dX5_count_3 : decode cX5_count 3 = .ok (.bipush 12, 2) := by decide +kernel
theorem dX5_count_5 : decode cX5_count 5 = .ok (.invokestatic 39, 3) := by decide +kernel
theorem dX5_count_8 : decode cX5_count 8 = .ok (.ifCond .eq 15, 3) := by decide +kernel
theorem dX5_count_11 : decode cX5_count 11 = .ok (.aload_n 0, 1) := by decide +kernel
theorem dX5_count_12 : decode cX5_count 12 = .ok (.getfield 7, 3) := by decide +kernel
theorem dX5_count_15 : decode cX5_count 15 = .ok (.iconst 0, 1) := by decide +kernel
theorem dX5_count_16 : decode cX5_count 16 = .ok (.iload_n 1, 1) := by decide +kernel
theorem dX5_count_17 : decode cX5_count 17 = .ok (.iadd, 1) := by decide +kernel
theorem dX5_count_18 : decode cX5_count 18 = .ok (.bipush 10, 2) := by decide +kernel
theorem dX5_count_20 : decode cX5_count 20 = .ok (.isub, 1) := by decide +kernel
theorem dX5_count_21 : decode cX5_count 21 = .ok (.iaload, 1) := by decide +kernel
theorem dX5_count_22 : decode cX5_count 22 = .ok (.ireturn, 1) := by decide +kernel
theorem dX5_count_23 : decode cX5_count 23 = .ok (.iload_n 1, 1) := by decide +kernel
theorem dX5_count_24 : decode cX5_count 24 = .ok (.bipush 20, 2) := by decide +kernel
theorem dX5_count_26 : decode cX5_count 26 = .ok (.bipush 22, 2) := by decide +kernel
theorem dX5_count_28 : decode cX5_count 28 = .ok (.invokestatic 39, 3) := by decide +kernel
theorem dX5_count_31 : decode cX5_count 31 = .ok (.ifCond .eq 15, 3) := by decide +kernel
theorem dX5_count_34 : decode cX5_count 34 = .ok (.aload_n 0, 1) := by decide +kernel
theorem dX5_count_35 : decode cX5_count 35 = .ok (.getfield 7, 3) := by decide +kernel
theorem dX5_count_38 : decode cX5_count 38 = .ok (.iconst 3, 1) := by decide +kernel
theorem dX5_count_39 : decode cX5_count 39 = .ok (.iload_n 1, 1) := by decide +kernel
theorem dX5_count_40 : decode cX5_count 40 = .ok (.iadd, 1) := by decide +kernel
theorem dX5_count_41 : decode cX5_count 41 = .ok (.bipush 20, 2) := by decide +kernel
theorem dX5_count_43 : decode cX5_count 43 = .ok (.isub, 1) := by decide +kernel
theorem dX5_count_44 : decode cX5_count 44 = .ok (.iaload, 1) := by decide +kernel
theorem dX5_count_45 : decode cX5_count 45 = .ok (.ireturn, 1) := by decide +kernel
theorem dX5_count_46 : decode cX5_count 46 = .ok (.iload_n 1, 1) := by decide +kernel
theorem dX5_count_47 : decode cX5_count 47 = .ok (.tableswitch 111 0 7 #[45, 50, 59, 59, 59, 71, 76, 81], 45) := by decide +kernel
theorem dX5_count_92 : decode cX5_count 92 = .ok (.aload_n 0, 1) := by decide +kernel
theorem dX5_count_93 : decode cX5_count 93 = .ok (.invokevirtual 43, 3) := by decide +kernel
theorem dX5_count_96 : decode cX5_count 96 = .ok (.ireturn, 1) := by decide +kernel
theorem dX5_count_97 : decode cX5_count 97 = .ok (.aload_n 0, 1) := by decide +kernel
theorem dX5_count_98 : decode cX5_count 98 = .ok (.aload_n 0, 1) := by decide +kernel
theorem dX5_count_99 : decode cX5_count 99 = .ok (.invokevirtual 89, 3) := by decide +kernel
theorem dX5_count_102 : decode cX5_count 102 = .ok (.invokevirtual 92, 3) := by decide +kernel
theorem dX5_count_105 : decode cX5_count 105 = .ok (.ireturn, 1) := by decide +kernel
theorem dX5_count_106 : decode cX5_count 106 = .ok (.aload_n 0, 1) := by decide +kernel
theorem dX5_count_107 : decode cX5_count 107 = .ok (.getfield 7, 3) := by decide +kernel
theorem dX5_count_110 : decode cX5_count 110 = .ok (.bipush 6, 2) := by decide +kernel
theorem dX5_count_112 : decode cX5_count 112 = .ok (.iload_n 1, 1) := by decide +kernel
theorem dX5_count_113 : decode cX5_count 113 = .ok (.iadd, 1) := by decide +kernel
theorem dX5_count_114 : decode cX5_count 114 = .ok (.iconst 2, 1) := by decide +kernel
theorem dX5_count_115 : decode cX5_count 115 = .ok (.isub, 1) := by decide +kernel
theorem dX5_count_116 : decode cX5_count 116 = .ok (.iaload, 1) := by decide +kernel
theorem dX5_count_117 : decode cX5_count 117 = .ok (.ireturn, 1) := by decide +kernel
theorem dX5_count_118 : decode cX5_count 118 = .ok (.aload_n 0, 1) := by decide +kernel
theorem dX5_count_119 : decode cX5_count 119 = .ok (.getfield 158, 3) := by decide +kernel
theorem dX5_count_122 : decode cX5_count 122 = .ok (.ireturn, 1) := by decide +kernel
theorem dX5_count_123 : decode cX5_count 123 = .ok (.aload_n 0, 1) := by decide +kernel
theorem dX5_count_124 : decode cX5_count 124 = .ok (.invokevirtual 180, 3) := by decide +kernel
theorem dX5_count_127 : decode cX5_count 127 = .ok (.ireturn, 1) := by decide +kernel
theorem dX5_count_128 : decode cX5_count 128 = .ok (.aload_n 0, 1) := by decide +kernel
theorem dX5_count_129 : decode cX5_count 129 = .ok (.getfield 16, 3) := by decide +kernel
theorem dX5_count_132 : decode cX5_count 132 = .ok (.iconst 0, 1) := by decide +kernel
theorem dX5_count_133 : decode cX5_count 133 = .ok (.baload, 1) := by decide +kernel
theorem dX5_count_134 : decode cX5_count 134 = .ok (.ifCond .eq 7, 3) := by decide +kernel
theorem dX5_count_137 : decode cX5_count 137 = .ok (.iconst 1, 1) := by decide +kernel
theorem dX5_count_138 : decode cX5_count 138 = .ok (.goto 4, 3) := by decide +kernel
theorem dX5_count_141 : decode cX5_count 141 = .ok (.iconst 0, 1) := by decide +kernel
theorem dX5_count_142 : decode cX5_count 142 = .ok (.aload_n 0, 1) := by decide +kernel
theorem dX5_count_143 : decode cX5_count 143 = .ok (.getfield 16, 3) := by decide +kernel
theorem dX5_count_146 : decode cX5_count 146 = .ok (.iconst 1, 1) := by decide +kernel
theorem dX5_count_147 : decode cX5_count 147 = .ok (.baload, 1) := by decide +kernel
theorem dX5_count_148 : decode cX5_count 148 = .ok (.ifCond .eq 7, 3) := by decide +kernel
theorem dX5_count_151 : decode cX5_count 151 = .ok (.iconst 2, 1) := by decide +kernel
theorem dX5_count_152 : decode cX5_count 152 = .ok (.goto 4, 3) := by decide +kernel
theorem dX5_count_155 : decode cX5_count 155 = .ok (.iconst 0, 1) := by decide +kernel
theorem dX5_count_156 : decode cX5_count 156 = .ok (.iadd, 1) := by decide +kernel
theorem dX5_count_157 : decode cX5_count 157 = .ok (.ireturn, 1) := by decide +kernel
theorem dX5_count_158 : decode cX5_count 158 = .ok (.bipush (-2), 2) := by decide +kernel
theorem dX5_count_160 : decode cX5_count 160 = .ok (.ireturn, 1) := by decide +kernel
theorem dJ6_bitCount_0f7a4_0 : decode cJ6_bitCount_0f7a4 0 = .ok (.iload_n 0, 1) := by decide +kernel
theorem dJ6_bitCount_0f7a4_1 : decode cJ6_bitCount_0f7a4 1 = .ok (.iload_n 0, 1) := by decide +kernel
theorem dJ6_bitCount_0f7a4_2 : decode cJ6_bitCount_0f7a4 2 = .ok (.iconst 1, 1) := by decide +kernel
theorem dJ6_bitCount_0f7a4_3 : decode cJ6_bitCount_0f7a4 3 = .ok (.iushr, 1) := by decide +kernel
theorem dJ6_bitCount_0f7a4_4 : decode cJ6_bitCount_0f7a4 4 = .ok (.ldc_w 265, 3) := by decide +kernel
theorem dJ6_bitCount_0f7a4_7 : decode cJ6_bitCount_0f7a4 7 = .ok (.iand, 1) := by decide +kernel
theorem dJ6_bitCount_0f7a4_8 : decode cJ6_bitCount_0f7a4 8 = .ok (.isub, 1) := by decide +kernel
theorem dJ6_bitCount_0f7a4_9 : decode cJ6_bitCount_0f7a4 9 = .ok (.istore_n 0, 1) := by decide +kernel
theorem dJ6_bitCount_0f7a4_10 : decode cJ6_bitCount_0f7a4 10 = .ok (.iload_n 0, 1) := by decide +kernel
theorem dJ6_bitCount_0f7a4_11 : decode cJ6_bitCount_0f7a4 11 = .ok (.ldc_w 266, 3) := by decide +kernel
theorem dJ6_bitCount_0f7a4_14 : decode cJ6_bitCount_0f7a4 14 = .ok (.iand, 1) := by decide +kernel
theorem dJ6_bitCount_0f7a4_15 : decode cJ6_bitCount_0f7a4 15 = .ok (.iload_n 0, 1) := by decide +kernel
theorem dJ6_bitCount_0f7a4_16 : decode cJ6_bitCount_0f7a4 16 = .ok (.iconst 2, 1) := by decide +kernel
theorem dJ6_bitCount_0f7a4_17 : decode cJ6_bitCount_0f7a4 17 = .ok (.iushr, 1) := by decide +kernel
theorem dJ6_bitCount_0f7a4_18 : decode cJ6_bitCount_0f7a4 18 = .ok (.ldc_w 266, 3) := by decide +kernel
theorem dJ6_bitCount_0f7a4_21 : decode cJ6_bitCount_0f7a4 21 = .ok (.iand, 1) := by decide +kernel
theorem dJ6_bitCount_0f7a4_22 : decode cJ6_bitCount_0f7a4 22 = .ok (.iadd, 1) := by decide +kernel
theorem dJ6_bitCount_0f7a4_23 : decode cJ6_bitCount_0f7a4 23 = .ok (.istore_n 0, 1) := by decide +kernel
theorem dJ6_bitCount_0f7a4_24 : decode cJ6_bitCount_0f7a4 24 = .ok (.iload_n 0, 1) := by decide +kernel
theorem dJ6_bitCount_0f7a4_25 : decode cJ6_bitCount_0f7a4 25 = .ok (.iload_n 0, 1) := by decide +kernel
theorem dJ6_bitCount_0f7a4_26 : decode cJ6_bitCount_0f7a4 26 = .ok (.iconst 4, 1) := by decide +kernel
theorem dJ6_bitCount_0f7a4_27 : decode cJ6_bitCount_0f7a4 27 = .ok (.iushr, 1) := by decide +kernel
theorem dJ6_bitCount_0f7a4_28 : decode cJ6_bitCount_0f7a4 28 = .ok (.iadd, 1) := by decide +kernel
theorem dJ6_bitCount_0f7a4_29 : decode cJ6_bitCount_0f7a4 29 = .ok (.ldc_w 267, 3) := by decide +kernel
theorem dJ6_bitCount_0f7a4_32 : decode cJ6_bitCount_0f7a4 32 = .ok (.iand, 1) := by decide +kernel
theorem dJ6_bitCount_0f7a4_33 : decode cJ6_bitCount_0f7a4 33 = .ok (.istore_n 0, 1) := by decide +kernel
theorem dJ6_bitCount_0f7a4_34 : decode cJ6_bitCount_0f7a4 34 = .ok (.iload_n 0, 1) := by decide +kernel
theorem dJ6_bitCount_0f7a4_35 : decode cJ6_bitCount_0f7a4 35 = .ok (.iload_n 0, 1) := by decide +kernel
theorem dJ6_bitCount_0f7a4_36 : decode cJ6_bitCount_0f7a4 36 = .ok (.bipush 8, 2) := by decide +kernel
theorem dJ6_bitCount_0f7a4_38 : decode cJ6_bitCount_0f7a4 38 = .ok (.iushr, 1) := by decide +kernel
theorem dJ6_bitCount_0f7a4_39 : decode cJ6_bitCount_0f7a4 39 = .ok (.iadd, 1) := by decide +kernel
theorem dJ6_bitCount_0f7a4_40 : decode cJ6_bitCount_0f7a4 40 = .ok (.istore_n 0, 1) := by decide +kernel
theorem dJ6_bitCount_0f7a4_41 : decode cJ6_bitCount_0f7a4 41 = .ok (.iload_n 0, 1) := by decide +kernel
theorem dJ6_bitCount_0f7a4_42 : decode cJ6_bitCount_0f7a4 42 = .ok (.iload_n 0, 1) := by decide +kernel
theorem dJ6_bitCount_0f7a4_43 : decode cJ6_bitCount_0f7a4 43 = .ok (.bipush 16, 2) := by decide +kernel
theorem dJ6_bitCount_0f7a4_45 : decode cJ6_bitCount_0f7a4 45 = .ok (.iushr, 1) := by decide +kernel
theorem dJ6_bitCount_0f7a4_46 : decode cJ6_bitCount_0f7a4 46 = .ok (.iadd, 1) := by decide +kernel
theorem dJ6_bitCount_0f7a4_47 : decode cJ6_bitCount_0f7a4 47 = .ok (.istore_n 0, 1) := by decide +kernel
theorem dJ6_bitCount_0f7a4_48 : decode cJ6_bitCount_0f7a4 48 = .ok (.iload_n 0, 1) := by decide +kernel
theorem dJ6_bitCount_0f7a4_49 : decode cJ6_bitCount_0f7a4 49 = .ok (.bipush 63, 2) := by decide +kernel
theorem dJ6_bitCount_0f7a4_51 : decode cJ6_bitCount_0f7a4 51 = .ok (.iand, 1) := by decide +kernel
theorem dJ6_bitCount_0f7a4_52 : decode cJ6_bitCount_0f7a4 52 = .ok (.ireturn, 1) := by decide +kernel
theorem dJ9_floorDiv_7cf53_0 : decode cJ9_floorDiv_7cf53 0 = .ok (.iload_n 0, 1) := by decide +kernel
theorem dJ9_floorDiv_7cf53_1 : decode cJ9_floorDiv_7cf53 1 = .ok (.iload_n 1, 1) := by decide +kernel
theorem dJ9_floorDiv_7cf53_2 : decode cJ9_floorDiv_7cf53 2 = .ok (.idiv, 1) := by decide +kernel
theorem dJ9_floorDiv_7cf53_3 : decode cJ9_floorDiv_7cf53 3 = .ok (.istore_n 2, 1) := by decide +kernel
theorem dJ9_floorDiv_7cf53_4 : decode cJ9_floorDiv_7cf53 4 = .ok (.iload_n 0, 1) := by decide +kernel
theorem dJ9_floorDiv_7cf53_5 : decode cJ9_floorDiv_7cf53 5 = .ok (.iload_n 1, 1) := by decide +kernel
theorem dJ9_floorDiv_7cf53_6 : decode cJ9_floorDiv_7cf53 6 = .ok (.ixor, 1) := by decide +kernel
theorem dJ9_floorDiv_7cf53_7 : decode cJ9_floorDiv_7cf53 7 = .ok (.ifCond .ge 14, 3) := by decide +kernel
theorem dJ9_floorDiv_7cf53_10 : decode cJ9_floorDiv_7cf53 10 = .ok (.iload_n 2, 1) := by decide +kernel
theorem dJ9_floorDiv_7cf53_11 : decode cJ9_floorDiv_7cf53 11 = .ok (.iload_n 1, 1) := by decide +kernel
theorem dJ9_floorDiv_7cf53_12 : decode cJ9_floorDiv_7cf53 12 = .ok (.imul, 1) := by decide +kernel
theorem dJ9_floorDiv_7cf53_13 : decode cJ9_floorDiv_7cf53 13 = .ok (.iload_n 0, 1) := by decide +kernel
theorem dJ9_floorDiv_7cf53_14 : decode cJ9_floorDiv_7cf53 14 = .ok (.if_icmp .eq 7, 3) := by decide +kernel
theorem dJ9_floorDiv_7cf53_17 : decode cJ9_floorDiv_7cf53 17 = .ok (.iload_n 2, 1) := by decide +kernel
theorem dJ9_floorDiv_7cf53_18 : decode cJ9_floorDiv_7cf53 18 = .ok (.iconst 1, 1) := by decide +kernel
theorem dJ9_floorDiv_7cf53_19 : decode cJ9_floorDiv_7cf53 19 = .ok (.isub, 1) := by decide +kernel
theorem dJ9_floorDiv_7cf53_20 : decode cJ9_floorDiv_7cf53 20 = .ok (.ireturn, 1) := by decide +kernel
theorem dJ9_floorDiv_7cf53_21 : decode cJ9_floorDiv_7cf53 21 = .ok (.iload_n 2, 1) := by decide +kernel
theorem dJ9_floorDiv_7cf53_22 : decode cJ9_floorDiv_7cf53 22 = .ok (.ireturn, 1) := by decide +kernel
theorem dJ9_max_7cf53_0 : decode cJ9_max_7cf53 0 = .ok (.iload_n 0, 1) := by decide +kernel
theorem dJ9_max_7cf53_1 : decode cJ9_max_7cf53 1 = .ok (.iload_n 1, 1) := by decide +kernel
theorem dJ9_max_7cf53_2 : decode cJ9_max_7cf53 2 = .ok (.if_icmp .lt 7, 3) := by decide +kernel
theorem dJ9_max_7cf53_5 : decode cJ9_max_7cf53 5 = .ok (.iload_n 0, 1) := by decide +kernel
theorem dJ9_max_7cf53_6 : decode cJ9_max_7cf53 6 = .ok (.goto 4, 3) := by decide +kernel
theorem dJ9_max_7cf53_9 : decode cJ9_max_7cf53 9 = .ok (.iload_n 1, 1) := by decide +kernel
theorem dJ9_max_7cf53_10 : decode cJ9_max_7cf53 10 = .ok (.ireturn, 1) := by decide +kernel
theorem dJ9_min_7cf53_0 : decode cJ9_min_7cf53 0 = .ok (.iload_n 0, 1) := by decide +kernel
theorem dJ9_min_7cf53_1 : decode cJ9_min_7cf53 1 = .ok (.iload_n 1, 1) := by decide +kernel
theorem dJ9_min_7cf53_2 : decode cJ9_min_7cf53 2 = .ok (.if_icmp .gt 7, 3) := by decide +kernel
theorem dJ9_min_7cf53_5 : decode cJ9_min_7cf53 5 = .ok (.iload_n 0, 1) := by decide +kernel
theorem dJ9_min_7cf53_6 : decode cJ9_min_7cf53 6 = .ok (.goto 4, 3) := by decide +kernel
theorem dJ9_min_7cf53_9 : decode cJ9_min_7cf53 9 = .ok (.iload_n 1, 1) := by decide +kernel
theorem dJ9_min_7cf53_10 : decode cJ9_min_7cf53 10 = .ok (.ireturn, 1) := by decide +kernel
theorem dJ7_fill_53178_0 : decode cJ7_fill_53178 0 = .ok (.iconst 0, 1) := by decide +kernel
theorem dJ7_fill_53178_1 : decode cJ7_fill_53178 1 = .ok (.istore_n 2, 1) := by decide +kernel
theorem dJ7_fill_53178_2 : decode cJ7_fill_53178 2 = .ok (.aload_n 0, 1) := by decide +kernel
theorem dJ7_fill_53178_3 : decode cJ7_fill_53178 3 = .ok (.arraylength, 1) := by decide +kernel
theorem dJ7_fill_53178_4 : decode cJ7_fill_53178 4 = .ok (.istore_n 3, 1) := by decide +kernel
theorem dJ7_fill_53178_5 : decode cJ7_fill_53178 5 = .ok (.iload_n 2, 1) := by decide +kernel
theorem dJ7_fill_53178_6 : decode cJ7_fill_53178 6 = .ok (.iload_n 3, 1) := by decide +kernel
theorem dJ7_fill_53178_7 : decode cJ7_fill_53178 7 = .ok (.if_icmp .ge 13, 3) := by decide +kernel
theorem dJ7_fill_53178_10 : decode cJ7_fill_53178 10 = .ok (.aload_n 0, 1) := by decide +kernel
theorem dJ7_fill_53178_11 : decode cJ7_fill_53178 11 = .ok (.iload_n 2, 1) := by decide +kernel
theorem dJ7_fill_53178_12 : decode cJ7_fill_53178 12 = .ok (.iload_n 1, 1) := by decide +kernel
theorem dJ7_fill_53178_13 : decode cJ7_fill_53178 13 = .ok (.iastore, 1) := by decide +kernel
theorem dJ7_fill_53178_14 : decode cJ7_fill_53178 14 = .ok (.iinc 2 1, 3) := by decide +kernel
theorem dJ7_fill_53178_17 : decode cJ7_fill_53178 17 = .ok (.goto (-12), 3) := by decide +kernel
theorem dJ7_fill_53178_20 : decode cJ7_fill_53178 20 = .ok (.return_, 1) := by decide +kernel
theorem dL_law_0 : decode cL_law 0 = .ok (.new 7, 3) := by decide +kernel
theorem dL_law_3 : decode cL_law 3 = .ok (.dup, 1) := by decide +kernel
theorem dL_law_4 : decode cL_law 4 = .ok (.invokespecial 9, 3) := by decide +kernel
theorem dL_law_7 : decode cL_law 7 = .ok (.astore_n 1, 1) := by decide +kernel
theorem dL_law_8 : decode cL_law 8 = .ok (.new 10, 3) := by decide +kernel
theorem dL_law_11 : decode cL_law 11 = .ok (.dup, 1) := by decide +kernel
theorem dL_law_12 : decode cL_law 12 = .ok (.invokespecial 12, 3) := by decide +kernel
theorem dL_law_15 : decode cL_law 15 = .ok (.astore_n 2, 1) := by decide +kernel
theorem dL_law_16 : decode cL_law 16 = .ok (.iconst 0, 1) := by decide +kernel
theorem dL_law_17 : decode cL_law 17 = .ok (.istore_n 3, 1) := by decide +kernel
theorem dL_law_18 : decode cL_law 18 = .ok (.iload_n 3, 1) := by decide +kernel
theorem dL_law_19 : decode cL_law 19 = .ok (.aload_n 0, 1) := by decide +kernel
theorem dL_law_20 : decode cL_law 20 = .ok (.arraylength, 1) := by decide +kernel
theorem dL_law_21 : decode cL_law 21 = .ok (.iconst 4, 1) := by decide +kernel
theorem dL_law_22 : decode cL_law 22 = .ok (.isub, 1) := by decide +kernel
theorem dL_law_23 : decode cL_law 23 = .ok (.if_icmp .gt 688, 3) := by decide +kernel
theorem dL_law_26 : decode cL_law 26 = .ok (.aload_n 0, 1) := by decide +kernel
theorem dL_law_27 : decode cL_law 27 = .ok (.iload_n 3, 1) := by decide +kernel
theorem dL_law_28 : decode cL_law 28 = .ok (.iaload, 1) := by decide +kernel
theorem dL_law_29 : decode cL_law 29 = .ok (.bipush 31, 2) := by decide +kernel
theorem dL_law_31 : decode cL_law 31 = .ok (.iand, 1) := by decide +kernel
theorem dL_law_32 : decode cL_law 32 = .ok (.tableswitch 673 0 20 #[100, 143, 176, 219, 242, 275, 308, 331, 364, 397, 430, 453, 476, 499, 512, 525, 548, 571, 604, 627, 650], 100) := by decide +kernel
theorem dL_law_132 : decode cL_law 132 = .ok (.aload_n 1, 1) := by decide +kernel
theorem dL_law_133 : decode cL_law 133 = .ok (.aload_n 0, 1) := by decide +kernel
theorem dL_law_134 : decode cL_law 134 = .ok (.iload_n 3, 1) := by decide +kernel
theorem dL_law_135 : decode cL_law 135 = .ok (.iconst 1, 1) := by decide +kernel
theorem dL_law_136 : decode cL_law 136 = .ok (.iadd, 1) := by decide +kernel
theorem dL_law_137 : decode cL_law 137 = .ok (.iaload, 1) := by decide +kernel
theorem dL_law_138 : decode cL_law 138 = .ok (.aload_n 0, 1) := by decide +kernel
theorem dL_law_139 : decode cL_law 139 = .ok (.iload_n 3, 1) := by decide +kernel
theorem dL_law_140 : decode cL_law 140 = .ok (.iconst 2, 1) := by decide +kernel
theorem dL_law_141 : decode cL_law 141 = .ok (.iadd, 1) := by decide +kernel
theorem dL_law_142 : decode cL_law 142 = .ok (.iaload, 1) := by decide +kernel
theorem dL_law_143 : decode cL_law 143 = .ok (.aload_n 0, 1) := by decide +kernel
theorem dL_law_144 : decode cL_law 144 = .ok (.iload_n 3, 1) := by decide +kernel
theorem dL_law_145 : decode cL_law 145 = .ok (.iconst 3, 1) := by decide +kernel
theorem dL_law_146 : decode cL_law 146 = .ok (.iadd, 1) := by decide +kernel
theorem dL_law_147 : decode cL_law 147 = .ok (.iaload, 1) := by decide +kernel
theorem dL_law_148 : decode cL_law 148 = .ok (.invokevirtual 13, 3) := by decide +kernel
theorem dL_law_151 : decode cL_law 151 = .ok (.aload_n 2, 1) := by decide +kernel
theorem dL_law_152 : decode cL_law 152 = .ok (.aload_n 0, 1) := by decide +kernel
theorem dL_law_153 : decode cL_law 153 = .ok (.iload_n 3, 1) := by decide +kernel
theorem dL_law_154 : decode cL_law 154 = .ok (.iconst 1, 1) := by decide +kernel
theorem dL_law_155 : decode cL_law 155 = .ok (.iadd, 1) := by decide +kernel
theorem dL_law_156 : decode cL_law 156 = .ok (.iaload, 1) := by decide +kernel
theorem dL_law_157 : decode cL_law 157 = .ok (.aload_n 0, 1) := by decide +kernel
theorem dL_law_158 : decode cL_law 158 = .ok (.iload_n 3, 1) := by decide +kernel
theorem dL_law_159 : decode cL_law 159 = .ok (.iconst 2, 1) := by decide +kernel
theorem dL_law_160 : decode cL_law 160 = .ok (.iadd, 1) := by decide +kernel
theorem dL_law_161 : decode cL_law 161 = .ok (.iaload, 1) := by decide +kernel
theorem dL_law_162 : decode cL_law 162 = .ok (.aload_n 0, 1) := by decide +kernel
theorem dL_law_163 : decode cL_law 163 = .ok (.iload_n 3, 1) := by decide +kernel
theorem dL_law_164 : decode cL_law 164 = .ok (.iconst 3, 1) := by decide +kernel
theorem dL_law_165 : decode cL_law 165 = .ok (.iadd, 1) := by decide +kernel
theorem dL_law_166 : decode cL_law 166 = .ok (.iaload, 1) := by decide +kernel
theorem dL_law_167 : decode cL_law 167 = .ok (.invokevirtual 17, 3) := by decide +kernel
theorem dL_law_170 : decode cL_law 170 = .ok (.if_icmp .eq 535, 3) := by decide +kernel
theorem dL_law_173 : decode cL_law 173 = .ok (.iconst 0, 1) := by decide +kernel
theorem dL_law_174 : decode cL_law 174 = .ok (.ireturn, 1) := by decide +kernel
theorem dL_law_175 : decode cL_law 175 = .ok (.aload_n 1, 1) := by decide +kernel
theorem dL_law_176 : decode cL_law 176 = .ok (.aload_n 0, 1) := by decide +kernel
theorem dL_law_177 : decode cL_law 177 = .ok (.iload_n 3, 1) := by decide +kernel
theorem dL_law_178 : decode cL_law 178 = .ok (.iconst 1, 1) := by decide +kernel
theorem dL_law_179 : decode cL_law 179 = .ok (.iadd, 1) := by decide +kernel
theorem dL_law_180 : decode cL_law 180 = .ok (.iaload, 1) := by decide +kernel
theorem dL_law_181 : decode cL_law 181 = .ok (.aload_n 0, 1) := by decide +kernel
theorem dL_law_182 : decode cL_law 182 = .ok (.iload_n 3, 1) := by decide +kernel
theorem dL_law_183 : decode cL_law 183 = .ok (.iconst 2, 1) := by decide +kernel
theorem dL_law_184 : decode cL_law 184 = .ok (.iadd, 1) := by decide +kernel
theorem dL_law_185 : decode cL_law 185 = .ok (.iaload, 1) := by decide +kernel
theorem dL_law_186 : decode cL_law 186 = .ok (.invokevirtual 18, 3) := by decide +kernel
theorem dL_law_189 : decode cL_law 189 = .ok (.aload_n 2, 1) := by decide +kernel
theorem dL_law_190 : decode cL_law 190 = .ok (.aload_n 0, 1) := by decide +kernel
theorem dL_law_191 : decode cL_law 191 = .ok (.iload_n 3, 1) := by decide +kernel
theorem dL_law_192 : decode cL_law 192 = .ok (.iconst 1, 1) := by decide +kernel
theorem dL_law_193 : decode cL_law 193 = .ok (.iadd, 1) := by decide +kernel
theorem dL_law_194 : decode cL_law 194 = .ok (.iaload, 1) := by decide +kernel
theorem dL_law_195 : decode cL_law 195 = .ok (.aload_n 0, 1) := by decide +kernel
theorem dL_law_196 : decode cL_law 196 = .ok (.iload_n 3, 1) := by decide +kernel
theorem dL_law_197 : decode cL_law 197 = .ok (.iconst 2, 1) := by decide +kernel
theorem dL_law_198 : decode cL_law 198 = .ok (.iadd, 1) := by decide +kernel
theorem dL_law_199 : decode cL_law 199 = .ok (.iaload, 1) := by decide +kernel
theorem dL_law_200 : decode cL_law 200 = .ok (.invokevirtual 22, 3) := by decide +kernel
theorem dL_law_203 : decode cL_law 203 = .ok (.if_icmp .eq 502, 3) := by decide +kernel
theorem dL_law_206 : decode cL_law 206 = .ok (.iconst 0, 1) := by decide +kernel
theorem dL_law_207 : decode cL_law 207 = .ok (.ireturn, 1) := by decide +kernel
theorem dL_law_208 : decode cL_law 208 = .ok (.aload_n 1, 1) := by decide +kernel
theorem dL_law_209 : decode cL_law 209 = .ok (.aload_n 0, 1) := by decide +kernel
theorem dL_law_210 : decode cL_law 210 = .ok (.iload_n 3, 1) := by decide +kernel
theorem dL_law_211 : decode cL_law 211 = .ok (.iconst 1, 1) := by decide +kernel
theorem dL_law_212 : decode cL_law 212 = .ok (.iadd, 1) := by decide +kernel
theorem dL_law_213 : decode cL_law 213 = .ok (.iaload, 1) := by decide +kernel
theorem dL_law_214 : decode cL_law 214 = .ok (.aload_n 0, 1) := by decide +kernel
theorem dL_law_215 : decode cL_law 215 = .ok (.iload_n 3, 1) := by decide +kernel
theorem dL_law_216 : decode cL_law 216 = .ok (.iconst 2, 1) := by decide +kernel
theorem dL_law_217 : decode cL_law 217 = .ok (.iadd, 1) := by decide +kernel
theorem dL_law_218 : decode cL_law 218 = .ok (.iaload, 1) := by decide +kernel
theorem dL_law_219 : decode cL_law 219 = .ok (.aload_n 0, 1) := by decide +kernel
theorem dL_law_220 : decode cL_law 220 = .ok (.iload_n 3, 1) := by decide +kernel
theorem dL_law_221 : decode cL_law 221 = .ok (.iconst 3, 1) := by decide +kernel
theorem dL_law_222 : decode cL_law 222 = .ok (.iadd, 1) := by decide +kernel
theorem dL_law_223 : decode cL_law 223 = .ok (.iaload, 1) := by decide +kernel
theorem dL_law_224 : decode cL_law 224 = .ok (.invokevirtual 23, 3) := by decide +kernel
theorem dL_law_227 : decode cL_law 227 = .ok (.aload_n 2, 1) := by decide +kernel
theorem dL_law_228 : decode cL_law 228 = .ok (.aload_n 0, 1) := by decide +kernel
theorem dL_law_229 : decode cL_law 229 = .ok (.iload_n 3, 1) := by decide +kernel
theorem dL_law_230 : decode cL_law 230 = .ok (.iconst 1, 1) := by decide +kernel
theorem dL_law_231 : decode cL_law 231 = .ok (.iadd, 1) := by decide +kernel
theorem dL_law_232 : decode cL_law 232 = .ok (.iaload, 1) := by decide +kernel
theorem dL_law_233 : decode cL_law 233 = .ok (.aload_n 0, 1) := by decide +kernel
theorem dL_law_234 : decode cL_law 234 = .ok (.iload_n 3, 1) := by decide +kernel
theorem dL_law_235 : decode cL_law 235 = .ok (.iconst 2, 1) := by decide +kernel
theorem dL_law_236 : decode cL_law 236 = .ok (.iadd, 1) := by decide +kernel
theorem dL_law_237 : decode cL_law 237 = .ok (.iaload, 1) := by decide +kernel
theorem dL_law_238 : decode cL_law 238 = .ok (.aload_n 0, 1) := by decide +kernel
theorem dL_law_239 : decode cL_law 239 = .ok (.iload_n 3, 1) := by decide +kernel
theorem dL_law_240 : decode cL_law 240 = .ok (.iconst 3, 1) := by decide +kernel
theorem dL_law_241 : decode cL_law 241 = .ok (.iadd, 1) := by decide +kernel
theorem dL_law_242 : decode cL_law 242 = .ok (.iaload, 1) := by decide +kernel
theorem dL_law_243 : decode cL_law 243 = .ok (.invokevirtual 26, 3) := by decide +kernel
theorem dL_law_246 : decode cL_law 246 = .ok (.if_icmp .eq 459, 3) := by decide +kernel
theorem dL_law_249 : decode cL_law 249 = .ok (.iconst 0, 1) := by decide +kernel
theorem dL_law_250 : decode cL_law 250 = .ok (.ireturn, 1) := by decide +kernel
theorem dL_law_251 : decode cL_law 251 = .ok (.aload_n 1, 1) := by decide +kernel
theorem dL_law_252 : decode cL_law 252 = .ok (.aload_n 0, 1) := by decide +kernel
theorem dL_law_253 : decode cL_law 253 = .ok (.iload_n 3, 1) := by decide +kernel
theorem dL_law_254 : decode cL_law 254 = .ok (.iconst 1, 1) := by decide +kernel
theorem dL_law_255 : decode cL_law 255 = .ok (.iadd, 1) := by decide +kernel
theorem dL_law_256 : decode cL_law 256 = .ok (.iaload, 1) := by decide +kernel
theorem dL_law_257 : decode cL_law 257 = .ok (.invokevirtual 27, 3) := by decide +kernel
theorem dL_law_260 : decode cL_law 260 = .ok (.aload_n 2, 1) := by decide +kernel
theorem dL_law_261 : decode cL_law 261 = .ok (.aload_n 0, 1) := by decide +kernel
theorem dL_law_262 : decode cL_law 262 = .ok (.iload_n 3, 1) := by decide +kernel
theorem dL_law_263 : decode cL_law 263 = .ok (.iconst 1, 1) := by decide +kernel
theorem dL_law_264 : decode cL_law 264 = .ok (.iadd, 1) := by decide +kernel
theorem dL_law_265 : decode cL_law 265 = .ok (.iaload, 1) := by decide +kernel
theorem dL_law_266 : decode cL_law 266 = .ok (.invokevirtual 31, 3) := by decide +kernel
theorem dL_law_269 : decode cL_law 269 = .ok (.if_icmp .eq 436, 3) := by decide +kernel
theorem dL_law_272 : decode cL_law 272 = .ok (.iconst 0, 1) := by decide +kernel
theorem dL_law_273 : decode cL_law 273 = .ok (.ireturn, 1) := by decide +kernel
theorem dL_law_274 : decode cL_law 274 = .ok (.aload_n 1, 1) := by decide +kernel
theorem dL_law_275 : decode cL_law 275 = .ok (.aload_n 0, 1) := by decide +kernel
theorem dL_law_276 : decode cL_law 276 = .ok (.iload_n 3, 1) := by decide +kernel
theorem dL_law_277 : decode cL_law 277 = .ok (.iconst 1, 1) := by decide +kernel
theorem dL_law_278 : decode cL_law 278 = .ok (.iadd, 1) := by decide +kernel
theorem dL_law_279 : decode cL_law 279 = .ok (.iaload, 1) := by decide +kernel
theorem dL_law_280 : decode cL_law 280 = .ok (.aload_n 0, 1) := by decide +kernel
theorem dL_law_281 : decode cL_law 281 = .ok (.iload_n 3, 1) := by decide +kernel
theorem dL_law_282 : decode cL_law 282 = .ok (.iconst 2, 1) := by decide +kernel
theorem dL_law_283 : decode cL_law 283 = .ok (.iadd, 1) := by decide +kernel
theorem dL_law_284 : decode cL_law 284 = .ok (.iaload, 1) := by decide +kernel
theorem dL_law_285 : decode cL_law 285 = .ok (.invokevirtual 32, 3) := by decide +kernel
theorem dL_law_288 : decode cL_law 288 = .ok (.aload_n 2, 1) := by decide +kernel
theorem dL_law_289 : decode cL_law 289 = .ok (.aload_n 0, 1) := by decide +kernel
theorem dL_law_290 : decode cL_law 290 = .ok (.iload_n 3, 1) := by decide +kernel
theorem dL_law_291 : decode cL_law 291 = .ok (.iconst 1, 1) := by decide +kernel
theorem dL_law_292 : decode cL_law 292 = .ok (.iadd, 1) := by decide +kernel
theorem dL_law_293 : decode cL_law 293 = .ok (.iaload, 1) := by decide +kernel
theorem dL_law_294 : decode cL_law 294 = .ok (.aload_n 0, 1) := by decide +kernel
theorem dL_law_295 : decode cL_law 295 = .ok (.iload_n 3, 1) := by decide +kernel
theorem dL_law_296 : decode cL_law 296 = .ok (.iconst 2, 1) := by decide +kernel
theorem dL_law_297 : decode cL_law 297 = .ok (.iadd, 1) := by decide +kernel
theorem dL_law_298 : decode cL_law 298 = .ok (.iaload, 1) := by decide +kernel
theorem dL_law_299 : decode cL_law 299 = .ok (.invokevirtual 35, 3) := by decide +kernel
theorem dL_law_302 : decode cL_law 302 = .ok (.if_icmp .eq 403, 3) := by decide +kernel
theorem dL_law_305 : decode cL_law 305 = .ok (.iconst 0, 1) := by decide +kernel
theorem dL_law_306 : decode cL_law 306 = .ok (.ireturn, 1) := by decide +kernel
theorem dL_law_307 : decode cL_law 307 = .ok (.aload_n 1, 1) := by decide +kernel
theorem dL_law_308 : decode cL_law 308 = .ok (.aload_n 0, 1) := by decide +kernel
theorem dL_law_309 : decode cL_law 309 = .ok (.iload_n 3, 1) := by decide +kernel
theorem dL_law_310 : decode cL_law 310 = .ok (.iconst 1, 1) := by decide +kernel
theorem dL_law_311 : decode cL_law 311 = .ok (.iadd, 1) := by decide +kernel
theorem dL_law_312 : decode cL_law 312 = .ok (.iaload, 1) := by decide +kernel
theorem dL_law_313 : decode cL_law 313 = .ok (.aload_n 0, 1) := by decide +kernel
theorem dL_law_314 : decode cL_law 314 = .ok (.iload_n 3, 1) := by decide +kernel
theorem dL_law_315 : decode cL_law 315 = .ok (.iconst 2, 1) := by decide +kernel
theorem dL_law_316 : decode cL_law 316 = .ok (.iadd, 1) := by decide +kernel
theorem dL_law_317 : decode cL_law 317 = .ok (.iaload, 1) := by decide +kernel
theorem dL_law_318 : decode cL_law 318 = .ok (.invokevirtual 36, 3) := by decide +kernel
theorem dL_law_321 : decode cL_law 321 = .ok (.aload_n 2, 1) := by decide +kernel
theorem dL_law_322 : decode cL_law 322 = .ok (.aload_n 0, 1) := by decide +kernel
theorem dL_law_323 : decode cL_law 323 = .ok (.iload_n 3, 1) := by decide +kernel
theorem dL_law_324 : decode cL_law 324 = .ok (.iconst 1, 1) := by decide +kernel
theorem dL_law_325 : decode cL_law 325 = .ok (.iadd, 1) := by decide +kernel
theorem dL_law_326 : decode cL_law 326 = .ok (.iaload, 1) := by decide +kernel
theorem dL_law_327 : decode cL_law 327 = .ok (.aload_n 0, 1) := by decide +kernel
theorem dL_law_328 : decode cL_law 328 = .ok (.iload_n 3, 1) := by decide +kernel
theorem dL_law_329 : decode cL_law 329 = .ok (.iconst 2, 1) := by decide +kernel
theorem dL_law_330 : decode cL_law 330 = .ok (.iadd, 1) := by decide +kernel
theorem dL_law_331 : decode cL_law 331 = .ok (.iaload, 1) := by decide +kernel
theorem dL_law_332 : decode cL_law 332 = .ok (.invokevirtual 39, 3) := by decide +kernel
theorem dL_law_335 : decode cL_law 335 = .ok (.if_icmp .eq 370, 3) := by decide +kernel
theorem dL_law_338 : decode cL_law 338 = .ok (.iconst 0, 1) := by decide +kernel
theorem dL_law_339 : decode cL_law 339 = .ok (.ireturn, 1) := by decide +kernel
theorem dL_law_340 : decode cL_law 340 = .ok (.aload_n 1, 1) := by decide +kernel
theorem dL_law_341 : decode cL_law 341 = .ok (.aload_n 0, 1) := by decide +kernel
theorem dL_law_342 : decode cL_law 342 = .ok (.iload_n 3, 1) := by decide +kernel
theorem dL_law_343 : decode cL_law 343 = .ok (.iconst 1, 1) := by decide +kernel
theorem dL_law_344 : decode cL_law 344 = .ok (.iadd, 1) := by decide +kernel
theorem dL_law_345 : decode cL_law 345 = .ok (.iaload, 1) := by decide +kernel
theorem dL_law_346 : decode cL_law 346 = .ok (.invokevirtual 40, 3) := by decide +kernel
theorem dL_law_349 : decode cL_law 349 = .ok (.aload_n 2, 1) := by decide +kernel
theorem dL_law_350 : decode cL_law 350 = .ok (.aload_n 0, 1) := by decide +kernel
theorem dL_law_351 : decode cL_law 351 = .ok (.iload_n 3, 1) := by decide +kernel
theorem dL_law_352 : decode cL_law 352 = .ok (.iconst 1, 1) := by decide +kernel
theorem dL_law_353 : decode cL_law 353 = .ok (.iadd, 1) := by decide +kernel
theorem dL_law_354 : decode cL_law 354 = .ok (.iaload, 1) := by decide +kernel
theorem dL_law_355 : decode cL_law 355 = .ok (.invokevirtual 43, 3) := by decide +kernel
theorem dL_law_358 : decode cL_law 358 = .ok (.if_icmp .eq 347, 3) := by decide +kernel
theorem dL_law_361 : decode cL_law 361 = .ok (.iconst 0, 1) := by decide +kernel
theorem dL_law_362 : decode cL_law 362 = .ok (.ireturn, 1) := by decide +kernel
theorem dL_law_363 : decode cL_law 363 = .ok (.aload_n 1, 1) := by decide +kernel
theorem dL_law_364 : decode cL_law 364 = .ok (.aload_n 0, 1) := by decide +kernel
theorem dL_law_365 : decode cL_law 365 = .ok (.iload_n 3, 1) := by decide +kernel
theorem dL_law_366 : decode cL_law 366 = .ok (.iconst 1, 1) := by decide +kernel
theorem dL_law_367 : decode cL_law 367 = .ok (.iadd, 1) := by decide +kernel
theorem dL_law_368 : decode cL_law 368 = .ok (.iaload, 1) := by decide +kernel
theorem dL_law_369 : decode cL_law 369 = .ok (.aload_n 0, 1) := by decide +kernel
theorem dL_law_370 : decode cL_law 370 = .ok (.iload_n 3, 1) := by decide +kernel
theorem dL_law_371 : decode cL_law 371 = .ok (.iconst 2, 1) := by decide +kernel
theorem dL_law_372 : decode cL_law 372 = .ok (.iadd, 1) := by decide +kernel
theorem dL_law_373 : decode cL_law 373 = .ok (.iaload, 1) := by decide +kernel
theorem dL_law_374 : decode cL_law 374 = .ok (.invokevirtual 44, 3) := by decide +kernel
theorem dL_law_377 : decode cL_law 377 = .ok (.aload_n 2, 1) := by decide +kernel
theorem dL_law_378 : decode cL_law 378 = .ok (.aload_n 0, 1) := by decide +kernel
theorem dL_law_379 : decode cL_law 379 = .ok (.iload_n 3, 1) := by decide +kernel
theorem dL_law_380 : decode cL_law 380 = .ok (.iconst 1, 1) := by decide +kernel
theorem dL_law_381 : decode cL_law 381 = .ok (.iadd, 1) := by decide +kernel
theorem dL_law_382 : decode cL_law 382 = .ok (.iaload, 1) := by decide +kernel
theorem dL_law_383 : decode cL_law 383 = .ok (.aload_n 0, 1) := by decide +kernel
theorem dL_law_384 : decode cL_law 384 = .ok (.iload_n 3, 1) := by decide +kernel
theorem dL_law_385 : decode cL_law 385 = .ok (.iconst 2, 1) := by decide +kernel
theorem dL_law_386 : decode cL_law 386 = .ok (.iadd, 1) := by decide +kernel
theorem dL_law_387 : decode cL_law 387 = .ok (.iaload, 1) := by decide +kernel
theorem dL_law_388 : decode cL_law 388 = .ok (.invokevirtual 47, 3) := by decide +kernel
theorem dL_law_391 : decode cL_law 391 = .ok (.if_icmp .eq 314, 3) := by decide +kernel
theorem dL_law_394 : decode cL_law 394 = .ok (.iconst 0, 1) := by decide +kernel
theorem dL_law_395 : decode cL_law 395 = .ok (.ireturn, 1) := by decide +kernel
theorem dL_law_396 : decode cL_law 396 = .ok (.aload_n 1, 1) := by decide +kernel
theorem dL_law_397 : decode cL_law 397 = .ok (.aload_n 0, 1) := by decide +kernel
theorem dL_law_398 : decode cL_law 398 = .ok (.iload_n 3, 1) := by decide +kernel
theorem dL_law_399 : decode cL_law 399 = .ok (.iconst 1, 1) := by decide +kernel
theorem dL_law_400 : decode cL_law 400 = .ok (.iadd, 1) := by decide +kernel
theorem dL_law_401 : decode cL_law 401 = .ok (.iaload, 1) := by decide +kernel
theorem dL_law_402 : decode cL_law 402 = .ok (.aload_n 0, 1) := by decide +kernel
theorem dL_law_403 : decode cL_law 403 = .ok (.iload_n 3, 1) := by decide +kernel
theorem dL_law_404 : decode cL_law 404 = .ok (.iconst 2, 1) := by decide +kernel
theorem dL_law_405 : decode cL_law 405 = .ok (.iadd, 1) := by decide +kernel
theorem dL_law_406 : decode cL_law 406 = .ok (.iaload, 1) := by decide +kernel
theorem dL_law_407 : decode cL_law 407 = .ok (.invokevirtual 48, 3) := by decide +kernel
theorem dL_law_410 : decode cL_law 410 = .ok (.aload_n 2, 1) := by decide +kernel
theorem dL_law_411 : decode cL_law 411 = .ok (.aload_n 0, 1) := by decide +kernel
theorem dL_law_412 : decode cL_law 412 = .ok (.iload_n 3, 1) := by decide +kernel
theorem dL_law_413 : decode cL_law 413 = .ok (.iconst 1, 1) := by decide +kernel
theorem dL_law_414 : decode cL_law 414 = .ok (.iadd, 1) := by decide +kernel
theorem dL_law_415 : decode cL_law 415 = .ok (.iaload, 1) := by decide +kernel
theorem dL_law_416 : decode cL_law 416 = .ok (.aload_n 0, 1) := by decide +kernel
theorem dL_law_417 : decode cL_law 417 = .ok (.iload_n 3, 1) := by decide +kernel
theorem dL_law_418 : decode cL_law 418 = .ok (.iconst 2, 1) := by decide +kernel
theorem dL_law_419 : decode cL_law 419 = .ok (.iadd, 1) := by decide +kernel
theorem dL_law_420 : decode cL_law 420 = .ok (.iaload, 1) := by decide +kernel
theorem dL_law_421 : decode cL_law 421 = .ok (.invokevirtual 51, 3) := by decide +kernel
theorem dL_law_424 : decode cL_law 424 = .ok (.if_icmp .eq 281, 3) := by decide +kernel
theorem dL_law_427 : decode cL_law 427 = .ok (.iconst 0, 1) := by decide +kernel
theorem dL_law_428 : decode cL_law 428 = .ok (.ireturn, 1) := by decide +kernel
theorem dL_law_429 : decode cL_law 429 = .ok (.aload_n 1, 1) := by decide +kernel
theorem dL_law_430 : decode cL_law 430 = .ok (.aload_n 0, 1) := by decide +kernel
theorem dL_law_431 : decode cL_law 431 = .ok (.iload_n 3, 1) := by decide +kernel
theorem dL_law_432 : decode cL_law 432 = .ok (.iconst 1, 1) := by decide +kernel
theorem dL_law_433 : decode cL_law 433 = .ok (.iadd, 1) := by decide +kernel
theorem dL_law_434 : decode cL_law 434 = .ok (.iaload, 1) := by decide +kernel
theorem dL_law_435 : decode cL_law 435 = .ok (.aload_n 0, 1) := by decide +kernel
theorem dL_law_436 : decode cL_law 436 = .ok (.iload_n 3, 1) := by decide +kernel
theorem dL_law_437 : decode cL_law 437 = .ok (.iconst 2, 1) := by decide +kernel
theorem dL_law_438 : decode cL_law 438 = .ok (.iadd, 1) := by decide +kernel
theorem dL_law_439 : decode cL_law 439 = .ok (.iaload, 1) := by decide +kernel
theorem dL_law_440 : decode cL_law 440 = .ok (.invokevirtual 52, 3) := by decide +kernel
theorem dL_law_443 : decode cL_law 443 = .ok (.aload_n 2, 1) := by decide +kernel
theorem dL_law_444 : decode cL_law 444 = .ok (.aload_n 0, 1) := by decide +kernel
theorem dL_law_445 : decode cL_law 445 = .ok (.iload_n 3, 1) := by decide +kernel
theorem dL_law_446 : decode cL_law 446 = .ok (.iconst 1, 1) := by decide +kernel
theorem dL_law_447 : decode cL_law 447 = .ok (.iadd, 1) := by decide +kernel
theorem dL_law_448 : decode cL_law 448 = .ok (.iaload, 1) := by decide +kernel
theorem dL_law_449 : decode cL_law 449 = .ok (.aload_n 0, 1) := by decide +kernel
theorem dL_law_450 : decode cL_law 450 = .ok (.iload_n 3, 1) := by decide +kernel
theorem dL_law_451 : decode cL_law 451 = .ok (.iconst 2, 1) := by decide +kernel
theorem dL_law_452 : decode cL_law 452 = .ok (.iadd, 1) := by decide +kernel
theorem dL_law_453 : decode cL_law 453 = .ok (.iaload, 1) := by decide +kernel
theorem dL_law_454 : decode cL_law 454 = .ok (.invokevirtual 55, 3) := by decide +kernel
theorem dL_law_457 : decode cL_law 457 = .ok (.if_icmp .eq 248, 3) := by decide +kernel
theorem dL_law_460 : decode cL_law 460 = .ok (.iconst 0, 1) := by decide +kernel
theorem dL_law_461 : decode cL_law 461 = .ok (.ireturn, 1) := by decide +kernel
theorem dL_law_462 : decode cL_law 462 = .ok (.aload_n 1, 1) := by decide +kernel
theorem dL_law_463 : decode cL_law 463 = .ok (.aload_n 0, 1) := by decide +kernel
theorem dL_law_464 : decode cL_law 464 = .ok (.iload_n 3, 1) := by decide +kernel
theorem dL_law_465 : decode cL_law 465 = .ok (.iconst 1, 1) := by decide +kernel
theorem dL_law_466 : decode cL_law 466 = .ok (.iadd, 1) := by decide +kernel
theorem dL_law_467 : decode cL_law 467 = .ok (.iaload, 1) := by decide +kernel
theorem dL_law_468 : decode cL_law 468 = .ok (.invokevirtual 56, 3) := by decide +kernel
theorem dL_law_471 : decode cL_law 471 = .ok (.aload_n 2, 1) := by decide +kernel
theorem dL_law_472 : decode cL_law 472 = .ok (.aload_n 0, 1) := by decide +kernel
theorem dL_law_473 : decode cL_law 473 = .ok (.iload_n 3, 1) := by decide +kernel
theorem dL_law_474 : decode cL_law 474 = .ok (.iconst 1, 1) := by decide +kernel
theorem dL_law_475 : decode cL_law 475 = .ok (.iadd, 1) := by decide +kernel
theorem dL_law_476 : decode cL_law 476 = .ok (.iaload, 1) := by decide +kernel
theorem dL_law_477 : decode cL_law 477 = .ok (.invokevirtual 59, 3) := by decide +kernel
theorem dL_law_480 : decode cL_law 480 = .ok (.if_icmp .eq 225, 3) := by decide +kernel
theorem dL_law_483 : decode cL_law 483 = .ok (.iconst 0, 1) := by decide +kernel
theorem dL_law_484 : decode cL_law 484 = .ok (.ireturn, 1) := by decide +kernel
theorem dL_law_485 : decode cL_law 485 = .ok (.aload_n 1, 1) := by decide +kernel
theorem dL_law_486 : decode cL_law 486 = .ok (.aload_n 0, 1) := by decide +kernel
theorem dL_law_487 : decode cL_law 487 = .ok (.iload_n 3, 1) := by decide +kernel
theorem dL_law_488 : decode cL_law 488 = .ok (.iconst 1, 1) := by decide +kernel
theorem dL_law_489 : decode cL_law 489 = .ok (.iadd, 1) := by decide +kernel
theorem dL_law_490 : decode cL_law 490 = .ok (.iaload, 1) := by decide +kernel
theorem dL_law_491 : decode cL_law 491 = .ok (.invokevirtual 60, 3) := by decide +kernel
theorem dL_law_494 : decode cL_law 494 = .ok (.aload_n 2, 1) := by decide +kernel
theorem dL_law_495 : decode cL_law 495 = .ok (.aload_n 0, 1) := by decide +kernel
theorem dL_law_496 : decode cL_law 496 = .ok (.iload_n 3, 1) := by decide +kernel
theorem dL_law_497 : decode cL_law 497 = .ok (.iconst 1, 1) := by decide +kernel
theorem dL_law_498 : decode cL_law 498 = .ok (.iadd, 1) := by decide +kernel
theorem dL_law_499 : decode cL_law 499 = .ok (.iaload, 1) := by decide +kernel
theorem dL_law_500 : decode cL_law 500 = .ok (.invokevirtual 63, 3) := by decide +kernel
theorem dL_law_503 : decode cL_law 503 = .ok (.if_icmp .eq 202, 3) := by decide +kernel
theorem dL_law_506 : decode cL_law 506 = .ok (.iconst 0, 1) := by decide +kernel
theorem dL_law_507 : decode cL_law 507 = .ok (.ireturn, 1) := by decide +kernel
theorem dL_law_508 : decode cL_law 508 = .ok (.aload_n 1, 1) := by decide +kernel
theorem dL_law_509 : decode cL_law 509 = .ok (.aload_n 0, 1) := by decide +kernel
theorem dL_law_510 : decode cL_law 510 = .ok (.iload_n 3, 1) := by decide +kernel
theorem dL_law_511 : decode cL_law 511 = .ok (.iconst 1, 1) := by decide +kernel
theorem dL_law_512 : decode cL_law 512 = .ok (.iadd, 1) := by decide +kernel
theorem dL_law_513 : decode cL_law 513 = .ok (.iaload, 1) := by decide +kernel
theorem dL_law_514 : decode cL_law 514 = .ok (.invokevirtual 64, 3) := by decide +kernel
theorem dL_law_517 : decode cL_law 517 = .ok (.aload_n 2, 1) := by decide +kernel
theorem dL_law_518 : decode cL_law 518 = .ok (.aload_n 0, 1) := by decide +kernel
theorem dL_law_519 : decode cL_law 519 = .ok (.iload_n 3, 1) := by decide +kernel
theorem dL_law_520 : decode cL_law 520 = .ok (.iconst 1, 1) := by decide +kernel
theorem dL_law_521 : decode cL_law 521 = .ok (.iadd, 1) := by decide +kernel
theorem dL_law_522 : decode cL_law 522 = .ok (.iaload, 1) := by decide +kernel
theorem dL_law_523 : decode cL_law 523 = .ok (.invokevirtual 67, 3) := by decide +kernel
theorem dL_law_526 : decode cL_law 526 = .ok (.if_icmp .eq 179, 3) := by decide +kernel
theorem dL_law_529 : decode cL_law 529 = .ok (.iconst 0, 1) := by decide +kernel
theorem dL_law_530 : decode cL_law 530 = .ok (.ireturn, 1) := by decide +kernel
theorem dL_law_531 : decode cL_law 531 = .ok (.aload_n 1, 1) := by decide +kernel
theorem dL_law_532 : decode cL_law 532 = .ok (.invokevirtual 68, 3) := by decide +kernel
theorem dL_law_535 : decode cL_law 535 = .ok (.aload_n 2, 1) := by decide +kernel
theorem dL_law_536 : decode cL_law 536 = .ok (.invokevirtual 72, 3) := by decide +kernel
theorem dL_law_539 : decode cL_law 539 = .ok (.if_icmp .eq 166, 3) := by decide +kernel
theorem dL_law_542 : decode cL_law 542 = .ok (.iconst 0, 1) := by decide +kernel
theorem dL_law_543 : decode cL_law 543 = .ok (.ireturn, 1) := by decide +kernel
theorem dL_law_544 : decode cL_law 544 = .ok (.aload_n 1, 1) := by decide +kernel
theorem dL_law_545 : decode cL_law 545 = .ok (.invokevirtual 73, 3) := by decide +kernel
theorem dL_law_548 : decode cL_law 548 = .ok (.aload_n 2, 1) := by decide +kernel
theorem dL_law_549 : decode cL_law 549 = .ok (.invokevirtual 76, 3) := by decide +kernel
theorem dL_law_552 : decode cL_law 552 = .ok (.if_icmp .eq 153, 3) := by decide +kernel
theorem dL_law_555 : decode cL_law 555 = .ok (.iconst 0, 1) := by decide +kernel
theorem dL_law_556 : decode cL_law 556 = .ok (.ireturn, 1) := by decide +kernel
theorem dL_law_557 : decode cL_law 557 = .ok (.aload_n 1, 1) := by decide +kernel
theorem dL_law_558 : decode cL_law 558 = .ok (.aload_n 0, 1) := by decide +kernel
theorem dL_law_559 : decode cL_law 559 = .ok (.iload_n 3, 1) := by decide +kernel
theorem dL_law_560 : decode cL_law 560 = .ok (.iconst 1, 1) := by decide +kernel
theorem dL_law_561 : decode cL_law 561 = .ok (.iadd, 1) := by decide +kernel
theorem dL_law_562 : decode cL_law 562 = .ok (.iaload, 1) := by decide +kernel
theorem dL_law_563 : decode cL_law 563 = .ok (.invokevirtual 77, 3) := by decide +kernel
theorem dL_law_566 : decode cL_law 566 = .ok (.aload_n 2, 1) := by decide +kernel
theorem dL_law_567 : decode cL_law 567 = .ok (.aload_n 0, 1) := by decide +kernel
theorem dL_law_568 : decode cL_law 568 = .ok (.iload_n 3, 1) := by decide +kernel
theorem dL_law_569 : decode cL_law 569 = .ok (.iconst 1, 1) := by decide +kernel
theorem dL_law_570 : decode cL_law 570 = .ok (.iadd, 1) := by decide +kernel
theorem dL_law_571 : decode cL_law 571 = .ok (.iaload, 1) := by decide +kernel
theorem dL_law_572 : decode cL_law 572 = .ok (.invokevirtual 80, 3) := by decide +kernel
theorem dL_law_575 : decode cL_law 575 = .ok (.if_icmp .eq 130, 3) := by decide +kernel
theorem dL_law_578 : decode cL_law 578 = .ok (.iconst 0, 1) := by decide +kernel
theorem dL_law_579 : decode cL_law 579 = .ok (.ireturn, 1) := by decide +kernel
theorem dL_law_580 : decode cL_law 580 = .ok (.aload_n 1, 1) := by decide +kernel
theorem dL_law_581 : decode cL_law 581 = .ok (.aload_n 0, 1) := by decide +kernel
theorem dL_law_582 : decode cL_law 582 = .ok (.iload_n 3, 1) := by decide +kernel
theorem dL_law_583 : decode cL_law 583 = .ok (.iconst 1, 1) := by decide +kernel
theorem dL_law_584 : decode cL_law 584 = .ok (.iadd, 1) := by decide +kernel
theorem dL_law_585 : decode cL_law 585 = .ok (.iaload, 1) := by decide +kernel
theorem dL_law_586 : decode cL_law 586 = .ok (.invokevirtual 81, 3) := by decide +kernel
theorem dL_law_589 : decode cL_law 589 = .ok (.aload_n 2, 1) := by decide +kernel
theorem dL_law_590 : decode cL_law 590 = .ok (.aload_n 0, 1) := by decide +kernel
theorem dL_law_591 : decode cL_law 591 = .ok (.iload_n 3, 1) := by decide +kernel
theorem dL_law_592 : decode cL_law 592 = .ok (.iconst 1, 1) := by decide +kernel
theorem dL_law_593 : decode cL_law 593 = .ok (.iadd, 1) := by decide +kernel
theorem dL_law_594 : decode cL_law 594 = .ok (.iaload, 1) := by decide +kernel
theorem dL_law_595 : decode cL_law 595 = .ok (.invokevirtual 84, 3) := by decide +kernel
theorem dL_law_598 : decode cL_law 598 = .ok (.if_icmp .eq 107, 3) := by decide +kernel
theorem dL_law_601 : decode cL_law 601 = .ok (.iconst 0, 1) := by decide +kernel
theorem dL_law_602 : decode cL_law 602 = .ok (.ireturn, 1) := by decide +kernel
theorem dL_law_603 : decode cL_law 603 = .ok (.aload_n 1, 1) := by decide +kernel
theorem dL_law_604 : decode cL_law 604 = .ok (.aload_n 0, 1) := by decide +kernel
theorem dL_law_605 : decode cL_law 605 = .ok (.iload_n 3, 1) := by decide +kernel
theorem dL_law_606 : decode cL_law 606 = .ok (.iconst 1, 1) := by decide +kernel
theorem dL_law_607 : decode cL_law 607 = .ok (.iadd, 1) := by decide +kernel
theorem dL_law_608 : decode cL_law 608 = .ok (.iaload, 1) := by decide +kernel
theorem dL_law_609 : decode cL_law 609 = .ok (.aload_n 0, 1) := by decide +kernel
theorem dL_law_610 : decode cL_law 610 = .ok (.iload_n 3, 1) := by decide +kernel
theorem dL_law_611 : decode cL_law 611 = .ok (.iconst 2, 1) := by decide +kernel
theorem dL_law_612 : decode cL_law 612 = .ok (.iadd, 1) := by decide +kernel
theorem dL_law_613 : decode cL_law 613 = .ok (.iaload, 1) := by decide +kernel
theorem dL_law_614 : decode cL_law 614 = .ok (.invokevirtual 85, 3) := by decide +kernel
theorem dL_law_617 : decode cL_law 617 = .ok (.aload_n 2, 1) := by decide +kernel
theorem dL_law_618 : decode cL_law 618 = .ok (.aload_n 0, 1) := by decide +kernel
theorem dL_law_619 : decode cL_law 619 = .ok (.iload_n 3, 1) := by decide +kernel
theorem dL_law_620 : decode cL_law 620 = .ok (.iconst 1, 1) := by decide +kernel
theorem dL_law_621 : decode cL_law 621 = .ok (.iadd, 1) := by decide +kernel
theorem dL_law_622 : decode cL_law 622 = .ok (.iaload, 1) := by decide +kernel
theorem dL_law_623 : decode cL_law 623 = .ok (.aload_n 0, 1) := by decide +kernel
theorem dL_law_624 : decode cL_law 624 = .ok (.iload_n 3, 1) := by decide +kernel
theorem dL_law_625 : decode cL_law 625 = .ok (.iconst 2, 1) := by decide +kernel
theorem dL_law_626 : decode cL_law 626 = .ok (.iadd, 1) := by decide +kernel
theorem dL_law_627 : decode cL_law 627 = .ok (.iaload, 1) := by decide +kernel
theorem dL_law_628 : decode cL_law 628 = .ok (.invokevirtual 88, 3) := by decide +kernel
theorem dL_law_631 : decode cL_law 631 = .ok (.if_icmp .eq 74, 3) := by decide +kernel
theorem dL_law_634 : decode cL_law 634 = .ok (.iconst 0, 1) := by decide +kernel
theorem dL_law_635 : decode cL_law 635 = .ok (.ireturn, 1) := by decide +kernel
theorem dL_law_636 : decode cL_law 636 = .ok (.aload_n 1, 1) := by decide +kernel
theorem dL_law_637 : decode cL_law 637 = .ok (.aload_n 0, 1) := by decide +kernel
theorem dL_law_638 : decode cL_law 638 = .ok (.iload_n 3, 1) := by decide +kernel
theorem dL_law_639 : decode cL_law 639 = .ok (.iconst 1, 1) := by decide +kernel
theorem dL_law_640 : decode cL_law 640 = .ok (.iadd, 1) := by decide +kernel
theorem dL_law_641 : decode cL_law 641 = .ok (.iaload, 1) := by decide +kernel
theorem dL_law_642 : decode cL_law 642 = .ok (.invokevirtual 89, 3) := by decide +kernel
theorem dL_law_645 : decode cL_law 645 = .ok (.aload_n 2, 1) := by decide +kernel
theorem dL_law_646 : decode cL_law 646 = .ok (.aload_n 0, 1) := by decide +kernel
theorem dL_law_647 : decode cL_law 647 = .ok (.iload_n 3, 1) := by decide +kernel
theorem dL_law_648 : decode cL_law 648 = .ok (.iconst 1, 1) := by decide +kernel
theorem dL_law_649 : decode cL_law 649 = .ok (.iadd, 1) := by decide +kernel
theorem dL_law_650 : decode cL_law 650 = .ok (.iaload, 1) := by decide +kernel
theorem dL_law_651 : decode cL_law 651 = .ok (.invokevirtual 92, 3) := by decide +kernel
theorem dL_law_654 : decode cL_law 654 = .ok (.if_icmp .eq 51, 3) := by decide +kernel
theorem dL_law_657 : decode cL_law 657 = .ok (.iconst 0, 1) := by decide +kernel
theorem dL_law_658 : decode cL_law 658 = .ok (.ireturn, 1) := by decide +kernel
theorem dL_law_659 : decode cL_law 659 = .ok (.aload_n 1, 1) := by decide +kernel
theorem dL_law_660 : decode cL_law 660 = .ok (.aload_n 0, 1) := by decide +kernel
theorem dL_law_661 : decode cL_law 661 = .ok (.iload_n 3, 1) := by decide +kernel
theorem dL_law_662 : decode cL_law 662 = .ok (.iconst 1, 1) := by decide +kernel
theorem dL_law_663 : decode cL_law 663 = .ok (.iadd, 1) := by decide +kernel
theorem dL_law_664 : decode cL_law 664 = .ok (.iaload, 1) := by decide +kernel
theorem dL_law_665 : decode cL_law 665 = .ok (.invokevirtual 93, 3) := by decide +kernel
theorem dL_law_668 : decode cL_law 668 = .ok (.aload_n 2, 1) := by decide +kernel
theorem dL_law_669 : decode cL_law 669 = .ok (.aload_n 0, 1) := by decide +kernel
theorem dL_law_670 : decode cL_law 670 = .ok (.iload_n 3, 1) := by decide +kernel
theorem dL_law_671 : decode cL_law 671 = .ok (.iconst 1, 1) := by decide +kernel
theorem dL_law_672 : decode cL_law 672 = .ok (.iadd, 1) := by decide +kernel
theorem dL_law_673 : decode cL_law 673 = .ok (.iaload, 1) := by decide +kernel
theorem dL_law_674 : decode cL_law 674 = .ok (.invokevirtual 96, 3) := by decide +kernel
theorem dL_law_677 : decode cL_law 677 = .ok (.if_icmp .eq 28, 3) := by decide +kernel
theorem dL_law_680 : decode cL_law 680 = .ok (.iconst 0, 1) := by decide +kernel
theorem dL_law_681 : decode cL_law 681 = .ok (.ireturn, 1) := by decide +kernel
theorem dL_law_682 : decode cL_law 682 = .ok (.aload_n 1, 1) := by decide +kernel
theorem dL_law_683 : decode cL_law 683 = .ok (.aload_n 0, 1) := by decide +kernel
theorem dL_law_684 : decode cL_law 684 = .ok (.iload_n 3, 1) := by decide +kernel
theorem dL_law_685 : decode cL_law 685 = .ok (.iconst 1, 1) := by decide +kernel
theorem dL_law_686 : decode cL_law 686 = .ok (.iadd, 1) := by decide +kernel
theorem dL_law_687 : decode cL_law 687 = .ok (.iaload, 1) := by decide +kernel
theorem dL_law_688 : decode cL_law 688 = .ok (.invokevirtual 97, 3) := by decide +kernel
theorem dL_law_691 : decode cL_law 691 = .ok (.aload_n 2, 1) := by decide +kernel
theorem dL_law_692 : decode cL_law 692 = .ok (.aload_n 0, 1) := by decide +kernel
theorem dL_law_693 : decode cL_law 693 = .ok (.iload_n 3, 1) := by decide +kernel
theorem dL_law_694 : decode cL_law 694 = .ok (.iconst 1, 1) := by decide +kernel
theorem dL_law_695 : decode cL_law 695 = .ok (.iadd, 1) := by decide +kernel
theorem dL_law_696 : decode cL_law 696 = .ok (.iaload, 1) := by decide +kernel
theorem dL_law_697 : decode cL_law 697 = .ok (.invokevirtual 100, 3) := by decide +kernel
theorem dL_law_700 : decode cL_law 700 = .ok (.if_icmp .eq 5, 3) := by decide +kernel
theorem dL_law_703 : decode cL_law 703 = .ok (.iconst 0, 1) := by decide +kernel
theorem dL_law_704 : decode cL_law 704 = .ok (.ireturn, 1) := by decide +kernel
theorem dL_law_705 : decode cL_law 705 = .ok (.iinc 3 4, 3) := by decide +kernel
theorem dL_law_708 : decode cL_law 708 = .ok (.goto (-690), 3) := by decide +kernel
theorem dL_law_711 : decode cL_law 711 = .ok (.iconst 1, 1) := by decide +kernel
theorem dL_law_712 : decode cL_law 712 = .ok (.ireturn, 1) := by decide +kernel
