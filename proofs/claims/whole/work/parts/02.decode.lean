theorem dX0_init_0 : decode cX0_init 0 = .ok (.aload_n 0, 1) := by decide +kernel
theorem dX0_init_1 : decode cX0_init 1 = .ok (.invokespecial 3, 3) := by decide +kernel
theorem dX0_init_4 : decode cX0_init 4 = .ok (.aload_n 0, 1) := by decide +kernel
theorem dX0_init_5 : decode cX0_init 5 = .ok (.iconst 0, 1) := by decide +kernel
theorem dX0_init_6 : decode cX0_init 6 = .ok (.putfield 9, 3) := by decide +kernel
theorem dX0_init_9 : decode cX0_init 9 = .ok (.aload_n 0, 1) := by decide +kernel
theorem dX0_init_10 : decode cX0_init 10 = .ok (.bipush 14, 2) := by decide +kernel
theorem dX0_init_12 : decode cX0_init 12 = .ok (.newarray .int, 2) := by decide +kernel
theorem dX0_init_14 : decode cX0_init 14 = .ok (.putfield 15, 3) := by decide +kernel
theorem dX0_init_17 : decode cX0_init 17 = .ok (.return_, 1) := by decide +kernel
theorem dX0_write_0 : decode cX0_write 0 = .ok (.aload_n 0, 1) := by decide +kernel
theorem dX0_write_1 : decode cX0_write 1 = .ok (.getfield 15, 3) := by decide +kernel
theorem dX0_write_4 : decode cX0_write 4 = .ok (.aload_n 0, 1) := by decide +kernel
theorem dX0_write_5 : decode cX0_write 5 = .ok (.getfield 9, 3) := by decide +kernel
theorem dX0_write_8 : decode cX0_write 8 = .ok (.iload_n 1, 1) := by decide +kernel
theorem dX0_write_9 : decode cX0_write 9 = .ok (.iastore, 1) := by decide +kernel
theorem dX0_write_10 : decode cX0_write 10 = .ok (.aload_n 0, 1) := by decide +kernel
theorem dX0_write_11 : decode cX0_write 11 = .ok (.dup, 1) := by decide +kernel
theorem dX0_write_12 : decode cX0_write 12 = .ok (.getfield 9, 3) := by decide +kernel
theorem dX0_write_15 : decode cX0_write 15 = .ok (.iconst 1, 1) := by decide +kernel
theorem dX0_write_16 : decode cX0_write 16 = .ok (.iadd, 1) := by decide +kernel
theorem dX0_write_17 : decode cX0_write 17 = .ok (.putfield 9, 3) := by decide +kernel
theorem dX0_write_20 : decode cX0_write 20 = .ok (.return_, 1) := by decide +kernel
theorem dX0_read_0 : decode cX0_read 0 = .ok (.aload_n 2, 1) := by decide +kernel
theorem dX0_read_1 : decode cX0_read 1 = .ok (.invokevirtual 19, 3) := by decide +kernel
theorem dX0_read_4 : decode cX0_read 4 = .ok (.iconst 0, 1) := by decide +kernel
theorem dX0_read_5 : decode cX0_read 5 = .ok (.istore_n 3, 1) := by decide +kernel
theorem dX0_read_6 : decode cX0_read 6 = .ok (.iconst 0, 1) := by decide +kernel
theorem dX0_read_7 : decode cX0_read 7 = .ok (.istore 4, 2) := by decide +kernel
theorem dX0_read_9 : decode cX0_read 9 = .ok (.iconst 0, 1) := by decide +kernel
theorem dX0_read_10 : decode cX0_read 10 = .ok (.istore 5, 2) := by decide +kernel
theorem dX0_read_12 : decode cX0_read 12 = .ok (.iload 5, 2) := by decide +kernel
theorem dX0_read_14 : decode cX0_read 14 = .ok (.aload_n 0, 1) := by decide +kernel
theorem dX0_read_15 : decode cX0_read 15 = .ok (.getfield 9, 3) := by decide +kernel
theorem dX0_read_18 : decode cX0_read 18 = .ok (.if_icmp .ge 85, 3) := by decide +kernel
theorem dX0_read_21 : decode cX0_read 21 = .ok (.aload_n 0, 1) := by decide +kernel
theorem dX0_read_22 : decode cX0_read 22 = .ok (.getfield 15, 3) := by decide +kernel
theorem dX0_read_25 : decode cX0_read 25 = .ok (.iload 5, 2) := by decide +kernel
theorem dX0_read_27 : decode cX0_read 27 = .ok (.iaload, 1) := by decide +kernel
theorem dX0_read_28 : decode cX0_read 28 = .ok (.bipush 47, 2) := by decide +kernel
theorem dX0_read_30 : decode cX0_read 30 = .ok (.if_icmp .ne 24, 3) := by decide +kernel
theorem dX0_read_33 : decode cX0_read 33 = .ok (.iload 4, 2) := by decide +kernel
theorem dX0_read_35 : decode cX0_read 35 = .ok (.ifCond .ne 6, 3) := by decide +kernel
theorem dX0_read_38 : decode cX0_read 38 = .ok (.iload 5, 2) := by decide +kernel
theorem dX0_read_40 : decode cX0_read 40 = .ok (.ireturn, 1) := by decide +kernel
theorem dX0_read_41 : decode cX0_read 41 = .ok (.aload_n 2, 1) := by decide +kernel
theorem dX0_read_42 : decode cX0_read 42 = .ok (.aload_n 1, 1) := by decide +kernel
theorem dX0_read_43 : decode cX0_read 43 = .ok (.iload 4, 2) := by decide +kernel
theorem dX0_read_45 : decode cX0_read 45 = .ok (.invokevirtual 24, 3) := by decide +kernel
theorem dX0_read_48 : decode cX0_read 48 = .ok (.iconst 0, 1) := by decide +kernel
theorem dX0_read_49 : decode cX0_read 49 = .ok (.istore 4, 2) := by decide +kernel
theorem dX0_read_51 : decode cX0_read 51 = .ok (.goto 46, 3) := by decide +kernel
theorem dX0_read_54 : decode cX0_read 54 = .ok (.aload_n 0, 1) := by decide +kernel
theorem dX0_read_55 : decode cX0_read 55 = .ok (.getfield 15, 3) := by decide +kernel
theorem dX0_read_58 : decode cX0_read 58 = .ok (.iload 5, 2) := by decide +kernel
theorem dX0_read_60 : decode cX0_read 60 = .ok (.iaload, 1) := by decide +kernel
theorem dX0_read_61 : decode cX0_read 61 = .ok (.bipush 48, 2) := by decide +kernel
theorem dX0_read_63 : decode cX0_read 63 = .ok (.isub, 1) := by decide +kernel
theorem dX0_read_64 : decode cX0_read 64 = .ok (.istore 6, 2) := by decide +kernel
theorem dX0_read_66 : decode cX0_read 66 = .ok (.aload_n 1, 1) := by decide +kernel
theorem dX0_read_67 : decode cX0_read 67 = .ok (.iload 6, 2) := by decide +kernel
theorem dX0_read_69 : decode cX0_read 69 = .ok (.iload_n 3, 1) := by decide +kernel
theorem dX0_read_70 : decode cX0_read 70 = .ok (.iload 4, 2) := by decide +kernel
theorem dX0_read_72 : decode cX0_read 72 = .ok (.invokestatic 28, 3) := by decide +kernel
theorem dX0_read_75 : decode cX0_read 75 = .ok (.ifCond .ne 6, 3) := by decide +kernel
theorem dX0_read_78 : decode cX0_read 78 = .ok (.iload 5, 2) := by decide +kernel
theorem dX0_read_80 : decode cX0_read 80 = .ok (.ireturn, 1) := by decide +kernel
theorem dX0_read_81 : decode cX0_read 81 = .ok (.iload_n 3, 1) := by decide +kernel
theorem dX0_read_82 : decode cX0_read 82 = .ok (.iconst 1, 1) := by decide +kernel
theorem dX0_read_83 : decode cX0_read 83 = .ok (.iload 6, 2) := by decide +kernel
theorem dX0_read_85 : decode cX0_read 85 = .ok (.ishl, 1) := by decide +kernel
theorem dX0_read_86 : decode cX0_read 86 = .ok (.ior, 1) := by decide +kernel
theorem dX0_read_87 : decode cX0_read 87 = .ok (.istore_n 3, 1) := by decide +kernel
theorem dX0_read_88 : decode cX0_read 88 = .ok (.iload 4, 2) := by decide +kernel
theorem dX0_read_90 : decode cX0_read 90 = .ok (.iconst 1, 1) := by decide +kernel
theorem dX0_read_91 : decode cX0_read 91 = .ok (.iload 6, 2) := by decide +kernel
theorem dX0_read_93 : decode cX0_read 93 = .ok (.ishl, 1) := by decide +kernel
theorem dX0_read_94 : decode cX0_read 94 = .ok (.ior, 1) := by decide +kernel
theorem dX0_read_95 : decode cX0_read 95 = .ok (.istore 4, 2) := by decide +kernel
theorem dX0_read_97 : decode cX0_read 97 = .ok (.iinc 5 1, 3) := by decide +kernel
theorem dX0_read_100 : decode cX0_read 100 = .ok (.goto (-88), 3) := by decide +kernel
theorem dX0_read_103 : decode cX0_read 103 = .ok (.iload 4, 2) := by decide +kernel
theorem dX0_read_105 : decode cX0_read 105 = .ok (.ifCond .eq 13, 3) := by decide +kernel
theorem dX0_read_108 : decode cX0_read 108 = .ok (.aload_n 2, 1) := by decide +kernel
theorem dX0_read_109 : decode cX0_read 109 = .ok (.aload_n 1, 1) := by decide +kernel
theorem dX0_read_110 : decode cX0_read 110 = .ok (.iload 4, 2) := by decide +kernel
theorem dX0_read_112 : decode cX0_read 112 = .ok (.invokevirtual 24, 3) := by decide +kernel
theorem dX0_read_115 : decode cX0_read 115 = .ok (.bipush (-6), 2) := by decide +kernel
theorem dX0_read_117 : decode cX0_read 117 = .ok (.ireturn, 1) := by decide +kernel
theorem dX0_read_118 : decode cX0_read 118 = .ok (.aload_n 0, 1) := by decide +kernel
theorem dX0_read_119 : decode cX0_read 119 = .ok (.getfield 9, 3) := by decide +kernel
theorem dX0_read_122 : decode cX0_read 122 = .ok (.ifCond .ne 8, 3) := by decide +kernel
theorem dX0_read_125 : decode cX0_read 125 = .ok (.bipush (-6), 2) := by decide +kernel
theorem dX0_read_127 : decode cX0_read 127 = .ok (.goto 7, 3) := by decide +kernel
theorem dX0_read_130 : decode cX0_read 130 = .ok (.aload_n 0, 1) := by decide +kernel
theorem dX0_read_131 : decode cX0_read 131 = .ok (.getfield 9, 3) := by decide +kernel
theorem dX0_read_134 : decode cX0_read 134 = .ok (.ireturn, 1) := by decide +kernel
theorem dX0_mayStand_0 : decode cX0_mayStand 0 = .ok (.iload_n 1, 1) := by decide +kernel
theorem dX0_mayStand_1 : decode cX0_mayStand 1 = .ok (.iconst 0, 1) := by decide +kernel
theorem dX0_mayStand_2 : decode cX0_mayStand 2 = .ok (.aload_n 0, 1) := by decide +kernel
theorem dX0_mayStand_3 : decode cX0_mayStand 3 = .ok (.getfield 32, 3) := by decide +kernel
theorem dX0_mayStand_6 : decode cX0_mayStand 6 = .ok (.iconst 1, 1) := by decide +kernel
theorem dX0_mayStand_7 : decode cX0_mayStand 7 = .ok (.isub, 1) := by decide +kernel
theorem dX0_mayStand_8 : decode cX0_mayStand 8 = .ok (.invokestatic 37, 3) := by decide +kernel
theorem dX0_mayStand_11 : decode cX0_mayStand 11 = .ok (.ifCond .eq 11, 3) := by decide +kernel
theorem dX0_mayStand_14 : decode cX0_mayStand 14 = .ok (.iload_n 2, 1) := by decide +kernel
theorem dX0_mayStand_15 : decode cX0_mayStand 15 = .ok (.iload_n 1, 1) := by decide +kernel
theorem dX0_mayStand_16 : decode cX0_mayStand 16 = .ok (.invokestatic 41, 3) := by decide +kernel
theorem dX0_mayStand_19 : decode cX0_mayStand 19 = .ok (.ifCond .eq 5, 3) := by decide +kernel
theorem dX0_mayStand_22 : decode cX0_mayStand 22 = .ok (.iconst 0, 1) := by decide +kernel
theorem dX0_mayStand_23 : decode cX0_mayStand 23 = .ok (.ireturn, 1) := by decide +kernel
theorem dX0_mayStand_24 : decode cX0_mayStand 24 = .ok (.iload_n 3, 1) := by decide +kernel
theorem dX0_mayStand_25 : decode cX0_mayStand 25 = .ok (.ifCond .eq 12, 3) := by decide +kernel
theorem dX0_mayStand_28 : decode cX0_mayStand 28 = .ok (.aload_n 0, 1) := by decide +kernel
theorem dX0_mayStand_29 : decode cX0_mayStand 29 = .ok (.iload_n 1, 1) := by decide +kernel
theorem dX0_mayStand_30 : decode cX0_mayStand 30 = .ok (.iload_n 3, 1) := by decide +kernel
theorem dX0_mayStand_31 : decode cX0_mayStand 31 = .ok (.invokevirtual 45, 3) := by decide +kernel
theorem dX0_mayStand_34 : decode cX0_mayStand 34 = .ok (.ifCond .eq 7, 3) := by decide +kernel
theorem dX0_mayStand_37 : decode cX0_mayStand 37 = .ok (.iconst 1, 1) := by decide +kernel
theorem dX0_mayStand_38 : decode cX0_mayStand 38 = .ok (.goto 4, 3) := by decide +kernel
theorem dX0_mayStand_41 : decode cX0_mayStand 41 = .ok (.iconst 0, 1) := by decide +kernel
theorem dX0_mayStand_42 : decode cX0_mayStand 42 = .ok (.ireturn, 1) := by decide +kernel
theorem dX1_init_0 : decode cX1_init 0 = .ok (.aload_n 0, 1) := by decide +kernel
theorem dX1_init_1 : decode cX1_init 1 = .ok (.invokespecial 3, 3) := by decide +kernel
theorem dX1_init_4 : decode cX1_init 4 = .ok (.aload_n 0, 1) := by decide +kernel
theorem dX1_init_5 : decode cX1_init 5 = .ok (.iconst 0, 1) := by decide +kernel
theorem dX1_init_6 : decode cX1_init 6 = .ok (.putfield 9, 3) := by decide +kernel
theorem dX1_init_9 : decode cX1_init 9 = .ok (.aload_n 0, 1) := by decide +kernel
theorem dX1_init_10 : decode cX1_init 10 = .ok (.bipush 7, 2) := by decide +kernel
theorem dX1_init_12 : decode cX1_init 12 = .ok (.newarray .int, 2) := by decide +kernel
theorem dX1_init_14 : decode cX1_init 14 = .ok (.putfield 15, 3) := by decide +kernel
theorem dX1_init_17 : decode cX1_init 17 = .ok (.aload_n 0, 1) := by decide +kernel
theorem dX1_init_18 : decode cX1_init 18 = .ok (.bipush 7, 2) := by decide +kernel
theorem dX1_init_20 : decode cX1_init 20 = .ok (.newarray .int, 2) := by decide +kernel
theorem dX1_init_22 : decode cX1_init 22 = .ok (.putfield 19, 3) := by decide +kernel
theorem dX1_init_25 : decode cX1_init 25 = .ok (.return_, 1) := by decide +kernel
theorem dX1_clear_0 : decode cX1_clear 0 = .ok (.aload_n 0, 1) := by decide +kernel
theorem dX1_clear_1 : decode cX1_clear 1 = .ok (.iconst 0, 1) := by decide +kernel
theorem dX1_clear_2 : decode cX1_clear 2 = .ok (.putfield 9, 3) := by decide +kernel
theorem dX1_clear_5 : decode cX1_clear 5 = .ok (.return_, 1) := by decide +kernel
theorem dX1_add_0 : decode cX1_add 0 = .ok (.aload_n 0, 1) := by decide +kernel
theorem dX1_add_1 : decode cX1_add 1 = .ok (.getfield 9, 3) := by decide +kernel
theorem dX1_add_4 : decode cX1_add 4 = .ok (.bipush 7, 2) := by decide +kernel
theorem dX1_add_6 : decode cX1_add 6 = .ok (.if_icmp .ge 7, 3) := by decide +kernel
theorem dX1_add_9 : decode cX1_add 9 = .ok (.iload_n 2, 1) := by decide +kernel
theorem dX1_add_10 : decode cX1_add 10 = .ok (.ifCond .ne 4, 3) := by decide +kernel
theorem dX1_add_13 : decode cX1_add 13 = .ok (.return_, 1) := by decide +kernel
theorem dX1_add_14 : decode cX1_add 14 = .ok (.aload_n 0, 1) := by decide +kernel
theorem dX1_add_15 : decode cX1_add 15 = .ok (.getfield 9, 3) := by decide +kernel
theorem dX1_add_18 : decode cX1_add 18 = .ok (.ifCond .ne 7, 3) := by decide +kernel
theorem dX1_add_21 : decode cX1_add 21 = .ok (.iconst 3, 1) := by decide +kernel
theorem dX1_add_22 : decode cX1_add 22 = .ok (.goto 18, 3) := by decide +kernel
theorem dX1_add_25 : decode cX1_add 25 = .ok (.aload_n 1, 1) := by decide +kernel
theorem dX1_add_26 : decode cX1_add 26 = .ok (.aload_n 0, 1) := by decide +kernel
theorem dX1_add_27 : decode cX1_add 27 = .ok (.getfield 15, 3) := by decide +kernel
theorem dX1_add_30 : decode cX1_add 30 = .ok (.aload_n 0, 1) := by decide +kernel
theorem dX1_add_31 : decode cX1_add 31 = .ok (.getfield 9, 3) := by decide +kernel
theorem dX1_add_34 : decode cX1_add 34 = .ok (.iconst 1, 1) := by decide +kernel
theorem dX1_add_35 : decode cX1_add 35 = .ok (.isub, 1) := by decide +kernel
theorem dX1_add_36 : decode cX1_add 36 = .ok (.iaload, 1) := by decide +kernel
theorem dX1_add_37 : decode cX1_add 37 = .ok (.invokevirtual 24, 3) := by decide +kernel
theorem dX1_add_40 : decode cX1_add 40 = .ok (.istore_n 3, 1) := by decide +kernel
theorem dX1_add_41 : decode cX1_add 41 = .ok (.aload_n 0, 1) := by decide +kernel
theorem dX1_add_42 : decode cX1_add 42 = .ok (.getfield 15, 3) := by decide +kernel
theorem dX1_add_45 : decode cX1_add 45 = .ok (.aload_n 0, 1) := by decide +kernel
theorem dX1_add_46 : decode cX1_add 46 = .ok (.getfield 9, 3) := by decide +kernel
theorem dX1_add_49 : decode cX1_add 49 = .ok (.iload_n 2, 1) := by decide +kernel
theorem dX1_add_50 : decode cX1_add 50 = .ok (.iastore, 1) := by decide +kernel
theorem dX1_add_51 : decode cX1_add 51 = .ok (.aload_n 0, 1) := by decide +kernel
theorem dX1_add_52 : decode cX1_add 52 = .ok (.getfield 19, 3) := by decide +kernel
theorem dX1_add_55 : decode cX1_add 55 = .ok (.aload_n 0, 1) := by decide +kernel
theorem dX1_add_56 : decode cX1_add 56 = .ok (.getfield 9, 3) := by decide +kernel
theorem dX1_add_59 : decode cX1_add 59 = .ok (.aload_n 0, 1) := by decide +kernel
theorem dX1_add_60 : decode cX1_add 60 = .ok (.invokevirtual 28, 3) := by decide +kernel
theorem dX1_add_63 : decode cX1_add 63 = .ok (.aload_n 1, 1) := by decide +kernel
theorem dX1_add_64 : decode cX1_add 64 = .ok (.iload_n 3, 1) := by decide +kernel
theorem dX1_add_65 : decode cX1_add 65 = .ok (.aload_n 1, 1) := by decide +kernel
theorem dX1_add_66 : decode cX1_add 66 = .ok (.iload_n 2, 1) := by decide +kernel
theorem dX1_add_67 : decode cX1_add 67 = .ok (.invokevirtual 24, 3) := by decide +kernel
theorem dX1_add_70 : decode cX1_add 70 = .ok (.invokevirtual 32, 3) := by decide +kernel
theorem dX1_add_73 : decode cX1_add 73 = .ok (.iadd, 1) := by decide +kernel
theorem dX1_add_74 : decode cX1_add 74 = .ok (.iastore, 1) := by decide +kernel
theorem dX1_add_75 : decode cX1_add 75 = .ok (.aload_n 0, 1) := by decide +kernel
theorem dX1_add_76 : decode cX1_add 76 = .ok (.dup, 1) := by decide +kernel
theorem dX1_add_77 : decode cX1_add 77 = .ok (.getfield 9, 3) := by decide +kernel
theorem dX1_add_80 : decode cX1_add 80 = .ok (.iconst 1, 1) := by decide +kernel
theorem dX1_add_81 : decode cX1_add 81 = .ok (.iadd, 1) := by decide +kernel
theorem dX1_add_82 : decode cX1_add 82 = .ok (.putfield 9, 3) := by decide +kernel
theorem dX1_add_85 : decode cX1_add 85 = .ok (.return_, 1) := by decide +kernel
theorem dX1_time_0 : decode cX1_time 0 = .ok (.aload_n 0, 1) := by decide +kernel
theorem dX1_time_1 : decode cX1_time 1 = .ok (.getfield 9, 3) := by decide +kernel
theorem dX1_time_4 : decode cX1_time 4 = .ok (.ifCond .ne 7, 3) := by decide +kernel
theorem dX1_time_7 : decode cX1_time 7 = .ok (.iconst 0, 1) := by decide +kernel
theorem dX1_time_8 : decode cX1_time 8 = .ok (.goto 14, 3) := by decide +kernel
theorem dX1_time_11 : decode cX1_time 11 = .ok (.aload_n 0, 1) := by decide +kernel
theorem dX1_time_12 : decode cX1_time 12 = .ok (.getfield 19, 3) := by decide +kernel
theorem dX1_time_15 : decode cX1_time 15 = .ok (.aload_n 0, 1) := by decide +kernel
theorem dX1_time_16 : decode cX1_time 16 = .ok (.getfield 9, 3) := by decide +kernel
theorem dX1_time_19 : decode cX1_time 19 = .ok (.iconst 1, 1) := by decide +kernel
theorem dX1_time_20 : decode cX1_time 20 = .ok (.isub, 1) := by decide +kernel
theorem dX1_time_21 : decode cX1_time 21 = .ok (.iaload, 1) := by decide +kernel
theorem dX1_time_22 : decode cX1_time 22 = .ok (.ireturn, 1) := by decide +kernel
theorem dX1_members_0 : decode cX1_members 0 = .ok (.iconst 0, 1) := by decide +kernel
theorem dX1_members_1 : decode cX1_members 1 = .ok (.istore_n 1, 1) := by decide +kernel
theorem dX1_members_2 : decode cX1_members 2 = .ok (.iconst 0, 1) := by decide +kernel
theorem dX1_members_3 : decode cX1_members 3 = .ok (.istore_n 2, 1) := by decide +kernel
theorem dX1_members_4 : decode cX1_members 4 = .ok (.iload_n 2, 1) := by decide +kernel
theorem dX1_members_5 : decode cX1_members 5 = .ok (.aload_n 0, 1) := by decide +kernel
theorem dX1_members_6 : decode cX1_members 6 = .ok (.getfield 9, 3) := by decide +kernel
theorem dX1_members_9 : decode cX1_members 9 = .ok (.if_icmp .ge 18, 3) := by decide +kernel
theorem dX1_members_12 : decode cX1_members 12 = .ok (.iload_n 1, 1) := by decide +kernel
theorem dX1_members_13 : decode cX1_members 13 = .ok (.aload_n 0, 1) := by decide +kernel
theorem dX1_members_14 : decode cX1_members 14 = .ok (.getfield 15, 3) := by decide +kernel
theorem dX1_members_17 : decode cX1_members 17 = .ok (.iload_n 2, 1) := by decide +kernel
theorem dX1_members_18 : decode cX1_members 18 = .ok (.iaload, 1) := by decide +kernel
theorem dX1_members_19 : decode cX1_members 19 = .ok (.ior, 1) := by decide +kernel
theorem dX1_members_20 : decode cX1_members 20 = .ok (.istore_n 1, 1) := by decide +kernel
theorem dX1_members_21 : decode cX1_members 21 = .ok (.iinc 2 1, 3) := by decide +kernel
theorem dX1_members_24 : decode cX1_members 24 = .ok (.goto (-20), 3) := by decide +kernel
theorem dX1_members_27 : decode cX1_members 27 = .ok (.iload_n 1, 1) := by decide +kernel
theorem dX1_members_28 : decode cX1_members 28 = .ok (.ireturn, 1) := by decide +kernel
theorem dX1_batchOrHowMany_0 : decode cX1_batchOrHowMany 0 = .ok (.iload_n 1, 1) := by decide +kernel
theorem dX1_batchOrHowMany_1 : decode cX1_batchOrHowMany 1 = .ok (.iconst (-1), 1) := by decide +kernel
theorem dX1_batchOrHowMany_2 : decode cX1_batchOrHowMany 2 = .ok (.if_icmp .ne 8, 3) := by decide +kernel
theorem dX1_batchOrHowMany_5 : decode cX1_batchOrHowMany 5 = .ok (.aload_n 0, 1) := by decide +kernel
theorem dX1_batchOrHowMany_6 : decode cX1_batchOrHowMany 6 = .ok (.getfield 9, 3) := by decide +kernel
theorem dX1_batchOrHowMany_9 : decode cX1_batchOrHowMany 9 = .ok (.ireturn, 1) := by decide +kernel
theorem dX1_batchOrHowMany_10 : decode cX1_batchOrHowMany 10 = .ok (.iload_n 1, 1) := by decide +kernel
theorem dX1_batchOrHowMany_11 : decode cX1_batchOrHowMany 11 = .ok (.iconst 0, 1) := by decide +kernel
theorem dX1_batchOrHowMany_12 : decode cX1_batchOrHowMany 12 = .ok (.aload_n 0, 1) := by decide +kernel
theorem dX1_batchOrHowMany_13 : decode cX1_batchOrHowMany 13 = .ok (.getfield 9, 3) := by decide +kernel
theorem dX1_batchOrHowMany_16 : decode cX1_batchOrHowMany 16 = .ok (.iconst 1, 1) := by decide +kernel
theorem dX1_batchOrHowMany_17 : decode cX1_batchOrHowMany 17 = .ok (.isub, 1) := by decide +kernel
theorem dX1_batchOrHowMany_18 : decode cX1_batchOrHowMany 18 = .ok (.invokestatic 36, 3) := by decide +kernel
theorem dX1_batchOrHowMany_21 : decode cX1_batchOrHowMany 21 = .ok (.ifCond .eq 12, 3) := by decide +kernel
theorem dX1_batchOrHowMany_24 : decode cX1_batchOrHowMany 24 = .ok (.aload_n 0, 1) := by decide +kernel
theorem dX1_batchOrHowMany_25 : decode cX1_batchOrHowMany 25 = .ok (.getfield 15, 3) := by decide +kernel
theorem dX1_batchOrHowMany_28 : decode cX1_batchOrHowMany 28 = .ok (.iload_n 1, 1) := by decide +kernel
theorem dX1_batchOrHowMany_29 : decode cX1_batchOrHowMany 29 = .ok (.iaload, 1) := by decide +kernel
theorem dX1_batchOrHowMany_30 : decode cX1_batchOrHowMany 30 = .ok (.goto 5, 3) := by decide +kernel
theorem dX1_batchOrHowMany_33 : decode cX1_batchOrHowMany 33 = .ok (.bipush (-6), 2) := by decide +kernel
theorem dX1_batchOrHowMany_35 : decode cX1_batchOrHowMany 35 = .ok (.ireturn, 1) := by decide +kernel
theorem dX1_endOf_0 : decode cX1_endOf 0 = .ok (.iconst 0, 1) := by decide +kernel
theorem dX1_endOf_1 : decode cX1_endOf 1 = .ok (.istore_n 2, 1) := by decide +kernel
theorem dX1_endOf_2 : decode cX1_endOf 2 = .ok (.iload_n 2, 1) := by decide +kernel
theorem dX1_endOf_3 : decode cX1_endOf 3 = .ok (.aload_n 0, 1) := by decide +kernel
theorem dX1_endOf_4 : decode cX1_endOf 4 = .ok (.getfield 9, 3) := by decide +kernel
theorem dX1_endOf_7 : decode cX1_endOf 7 = .ok (.if_icmp .ge 29, 3) := by decide +kernel
theorem dX1_endOf_10 : decode cX1_endOf 10 = .ok (.aload_n 0, 1) := by decide +kernel
theorem dX1_endOf_11 : decode cX1_endOf 11 = .ok (.getfield 15, 3) := by decide +kernel
theorem dX1_endOf_14 : decode cX1_endOf 14 = .ok (.iload_n 2, 1) := by decide +kernel
theorem dX1_endOf_15 : decode cX1_endOf 15 = .ok (.iaload, 1) := by decide +kernel
theorem dX1_endOf_16 : decode cX1_endOf 16 = .ok (.iload_n 1, 1) := by decide +kernel
theorem dX1_endOf_17 : decode cX1_endOf 17 = .ok (.invokestatic 40, 3) := by decide +kernel
theorem dX1_endOf_20 : decode cX1_endOf 20 = .ok (.ifCond .eq 10, 3) := by decide +kernel
theorem dX1_endOf_23 : decode cX1_endOf 23 = .ok (.aload_n 0, 1) := by decide +kernel
theorem dX1_endOf_24 : decode cX1_endOf 24 = .ok (.getfield 19, 3) := by decide +kernel
theorem dX1_endOf_27 : decode cX1_endOf 27 = .ok (.iload_n 2, 1) := by decide +kernel
theorem dX1_endOf_28 : decode cX1_endOf 28 = .ok (.iaload, 1) := by decide +kernel
theorem dX1_endOf_29 : decode cX1_endOf 29 = .ok (.ireturn, 1) := by decide +kernel
theorem dX1_endOf_30 : decode cX1_endOf 30 = .ok (.iinc 2 1, 3) := by decide +kernel
theorem dX1_endOf_33 : decode cX1_endOf 33 = .ok (.goto (-31), 3) := by decide +kernel
theorem dX1_endOf_36 : decode cX1_endOf 36 = .ok (.bipush (-6), 2) := by decide +kernel
theorem dX1_endOf_38 : decode cX1_endOf 38 = .ok (.ireturn, 1) := by decide +kernel
theorem dX1_measured_0 : decode cX1_measured 0 = .ok (.iload_n 2, 1) := by decide +kernel
theorem dX1_measured_1 : decode cX1_measured 1 = .ok (.iconst 2, 1) := by decide +kernel
theorem dX1_measured_2 : decode cX1_measured 2 = .ok (.if_icmp .ne 8, 3) := by decide +kernel
theorem dX1_measured_5 : decode cX1_measured 5 = .ok (.aload_n 0, 1) := by decide +kernel
theorem dX1_measured_6 : decode cX1_measured 6 = .ok (.invokevirtual 28, 3) := by decide +kernel
theorem dX1_measured_9 : decode cX1_measured 9 = .ok (.ireturn, 1) := by decide +kernel
theorem dX1_measured_10 : decode cX1_measured 10 = .ok (.iload_n 2, 1) := by decide +kernel
theorem dX1_measured_11 : decode cX1_measured 11 = .ok (.iconst 3, 1) := by decide +kernel
theorem dX1_measured_12 : decode cX1_measured 12 = .ok (.if_icmp .ne 8, 3) := by decide +kernel
theorem dX1_measured_15 : decode cX1_measured 15 = .ok (.aload_n 0, 1) := by decide +kernel
theorem dX1_measured_16 : decode cX1_measured 16 = .ok (.getfield 9, 3) := by decide +kernel
theorem dX1_measured_19 : decode cX1_measured 19 = .ok (.ireturn, 1) := by decide +kernel
theorem dX1_measured_20 : decode cX1_measured 20 = .ok (.iconst 0, 1) := by decide +kernel
theorem dX1_measured_21 : decode cX1_measured 21 = .ok (.istore_n 3, 1) := by decide +kernel
theorem dX1_measured_22 : decode cX1_measured 22 = .ok (.iconst 0, 1) := by decide +kernel
theorem dX1_measured_23 : decode cX1_measured 23 = .ok (.istore 4, 2) := by decide +kernel
theorem dX1_measured_25 : decode cX1_measured 25 = .ok (.iload 4, 2) := by decide +kernel
theorem dX1_measured_27 : decode cX1_measured 27 = .ok (.aload_n 0, 1) := by decide +kernel
theorem dX1_measured_28 : decode cX1_measured 28 = .ok (.getfield 9, 3) := by decide +kernel
theorem dX1_measured_31 : decode cX1_measured 31 = .ok (.if_icmp .ge 34, 3) := by decide +kernel
theorem dX1_measured_34 : decode cX1_measured 34 = .ok (.iload_n 2, 1) := by decide +kernel
theorem dX1_measured_35 : decode cX1_measured 35 = .ok (.iload_n 3, 1) := by decide +kernel
theorem dX1_measured_36 : decode cX1_measured 36 = .ok (.aload_n 1, 1) := by decide +kernel
theorem dX1_measured_37 : decode cX1_measured 37 = .ok (.iload_n 2, 1) := by decide +kernel
theorem dX1_measured_38 : decode cX1_measured 38 = .ok (.aload_n 0, 1) := by decide +kernel
theorem dX1_measured_39 : decode cX1_measured 39 = .ok (.getfield 15, 3) := by decide +kernel
theorem dX1_measured_42 : decode cX1_measured 42 = .ok (.iload 4, 2) := by decide +kernel
theorem dX1_measured_44 : decode cX1_measured 44 = .ok (.iaload, 1) := by decide +kernel
theorem dX1_measured_45 : decode cX1_measured 45 = .ok (.aload_n 0, 1) := by decide +kernel
theorem dX1_measured_46 : decode cX1_measured 46 = .ok (.getfield 19, 3) := by decide +kernel
theorem dX1_measured_49 : decode cX1_measured 49 = .ok (.iload 4, 2) := by decide +kernel
theorem dX1_measured_51 : decode cX1_measured 51 = .ok (.iaload, 1) := by decide +kernel
theorem dX1_measured_52 : decode cX1_measured 52 = .ok (.invokevirtual 44, 3) := by decide +kernel
theorem dX1_measured_55 : decode cX1_measured 55 = .ok (.invokestatic 48, 3) := by decide +kernel
theorem dX1_measured_58 : decode cX1_measured 58 = .ok (.istore_n 3, 1) := by decide +kernel
theorem dX1_measured_59 : decode cX1_measured 59 = .ok (.iinc 4 1, 3) := by decide +kernel
theorem dX1_measured_62 : decode cX1_measured 62 = .ok (.goto (-37), 3) := by decide +kernel
theorem dX1_measured_65 : decode cX1_measured 65 = .ok (.iload_n 3, 1) := by decide +kernel
theorem dX1_measured_66 : decode cX1_measured 66 = .ok (.ireturn, 1) := by decide +kernel
theorem dX1_becomeWith_0 : decode cX1_becomeWith 0 = .ok (.iload 4, 2) := by decide +kernel
theorem dX1_becomeWith_2 : decode cX1_becomeWith 2 = .ok (.iconst 2, 1) := by decide +kernel
theorem dX1_becomeWith_3 : decode cX1_becomeWith 3 = .ok (.idiv, 1) := by decide +kernel
theorem dX1_becomeWith_4 : decode cX1_becomeWith 4 = .ok (.istore 5, 2) := by decide +kernel
theorem dX1_becomeWith_6 : decode cX1_becomeWith 6 = .ok (.iload 4, 2) := by decide +kernel
theorem dX1_becomeWith_8 : decode cX1_becomeWith 8 = .ok (.iconst 2, 1) := by decide +kernel
theorem dX1_becomeWith_9 : decode cX1_becomeWith 9 = .ok (.irem, 1) := by decide +kernel
theorem dX1_becomeWith_10 : decode cX1_becomeWith 10 = .ok (.iconst 1, 1) := by decide +kernel
theorem dX1_becomeWith_11 : decode cX1_becomeWith 11 = .ok (.if_icmp .ne 7, 3) := by decide +kernel
theorem dX1_becomeWith_14 : decode cX1_becomeWith 14 = .ok (.iconst 1, 1) := by decide +kernel
theorem dX1_becomeWith_15 : decode cX1_becomeWith 15 = .ok (.goto 4, 3) := by decide +kernel
theorem dX1_becomeWith_18 : decode cX1_becomeWith 18 = .ok (.iconst 0, 1) := by decide +kernel
theorem dX1_becomeWith_19 : decode cX1_becomeWith 19 = .ok (.istore 6, 2) := by decide +kernel
theorem dX1_becomeWith_21 : decode cX1_becomeWith 21 = .ok (.iload 6, 2) := by decide +kernel
theorem dX1_becomeWith_23 : decode cX1_becomeWith 23 = .ok (.ifCond .eq 29, 3) := by decide +kernel
theorem dX1_becomeWith_26 : decode cX1_becomeWith 26 = .ok (.iload 5, 2) := by decide +kernel
theorem dX1_becomeWith_28 : decode cX1_becomeWith 28 = .ok (.aload_n 2, 1) := by decide +kernel
theorem dX1_becomeWith_29 : decode cX1_becomeWith 29 = .ok (.getfield 9, 3) := by decide +kernel
theorem dX1_becomeWith_32 : decode cX1_becomeWith 32 = .ok (.if_icmp .ge 18, 3) := by decide +kernel
theorem dX1_becomeWith_35 : decode cX1_becomeWith 35 = .ok (.aload_n 1, 1) := by decide +kernel
theorem dX1_becomeWith_36 : decode cX1_becomeWith 36 = .ok (.iload_n 3, 1) := by decide +kernel
theorem dX1_becomeWith_37 : decode cX1_becomeWith 37 = .ok (.aload_n 2, 1) := by decide +kernel
theorem dX1_becomeWith_38 : decode cX1_becomeWith 38 = .ok (.getfield 15, 3) := by decide +kernel
theorem dX1_becomeWith_41 : decode cX1_becomeWith 41 = .ok (.iload 5, 2) := by decide +kernel
theorem dX1_becomeWith_43 : decode cX1_becomeWith 43 = .ok (.iaload, 1) := by decide +kernel
theorem dX1_becomeWith_44 : decode cX1_becomeWith 44 = .ok (.invokevirtual 51, 3) := by decide +kernel
theorem dX1_becomeWith_47 : decode cX1_becomeWith 47 = .ok (.ifCond .ne 5, 3) := by decide +kernel
theorem dX1_becomeWith_50 : decode cX1_becomeWith 50 = .ok (.iconst 0, 1) := by decide +kernel
theorem dX1_becomeWith_51 : decode cX1_becomeWith 51 = .ok (.ireturn, 1) := by decide +kernel
theorem dX1_becomeWith_52 : decode cX1_becomeWith 52 = .ok (.aload_n 0, 1) := by decide +kernel
theorem dX1_becomeWith_53 : decode cX1_becomeWith 53 = .ok (.invokevirtual 54, 3) := by decide +kernel
theorem dX1_becomeWith_56 : decode cX1_becomeWith 56 = .ok (.iconst 0, 1) := by decide +kernel
theorem dX1_becomeWith_57 : decode cX1_becomeWith 57 = .ok (.istore 7, 2) := by decide +kernel
theorem dX1_becomeWith_59 : decode cX1_becomeWith 59 = .ok (.iload 7, 2) := by decide +kernel
theorem dX1_becomeWith_61 : decode cX1_becomeWith 61 = .ok (.aload_n 2, 1) := by decide +kernel
theorem dX1_becomeWith_62 : decode cX1_becomeWith 62 = .ok (.getfield 9, 3) := by decide +kernel
theorem dX1_becomeWith_65 : decode cX1_becomeWith 65 = .ok (.if_icmp .ge 67, 3) := by decide +kernel
theorem dX1_becomeWith_68 : decode cX1_becomeWith 68 = .ok (.iload 7, 2) := by decide +kernel
theorem dX1_becomeWith_70 : decode cX1_becomeWith 70 = .ok (.iload 5, 2) := by decide +kernel
theorem dX1_becomeWith_72 : decode cX1_becomeWith 72 = .ok (.if_icmp .ne 16, 3) := by decide +kernel
theorem dX1_becomeWith_75 : decode cX1_becomeWith 75 = .ok (.iload 6, 2) := by decide +kernel
theorem dX1_becomeWith_77 : decode cX1_becomeWith 77 = .ok (.ifCond .ne 11, 3) := by decide +kernel
theorem dX1_becomeWith_80 : decode cX1_becomeWith 80 = .ok (.aload_n 0, 1) := by decide +kernel
theorem dX1_becomeWith_81 : decode cX1_becomeWith 81 = .ok (.aload_n 1, 1) := by decide +kernel
theorem dX1_becomeWith_82 : decode cX1_becomeWith 82 = .ok (.iconst 1, 1) := by decide +kernel
theorem dX1_becomeWith_83 : decode cX1_becomeWith 83 = .ok (.iload_n 3, 1) := by decide +kernel
theorem dX1_becomeWith_84 : decode cX1_becomeWith 84 = .ok (.ishl, 1) := by decide +kernel
theorem dX1_becomeWith_85 : decode cX1_becomeWith 85 = .ok (.invokevirtual 57, 3) := by decide +kernel
theorem dX1_becomeWith_88 : decode cX1_becomeWith 88 = .ok (.aload_n 0, 1) := by decide +kernel
theorem dX1_becomeWith_89 : decode cX1_becomeWith 89 = .ok (.aload_n 1, 1) := by decide +kernel
theorem dX1_becomeWith_90 : decode cX1_becomeWith 90 = .ok (.iload 7, 2) := by decide +kernel
theorem dX1_becomeWith_92 : decode cX1_becomeWith 92 = .ok (.iload 5, 2) := by decide +kernel
theorem dX1_becomeWith_94 : decode cX1_becomeWith 94 = .ok (.if_icmp .ne 22, 3) := by decide +kernel
theorem dX1_becomeWith_97 : decode cX1_becomeWith 97 = .ok (.iload 6, 2) := by decide +kernel
theorem dX1_becomeWith_99 : decode cX1_becomeWith 99 = .ok (.ifCond .eq 17, 3) := by decide +kernel
theorem dX1_becomeWith_102 : decode cX1_becomeWith 102 = .ok (.aload_n 2, 1) := by decide +kernel
theorem dX1_becomeWith_103 : decode cX1_becomeWith 103 = .ok (.getfield 15, 3) := by decide +kernel
theorem dX1_becomeWith_106 : decode cX1_becomeWith 106 = .ok (.iload 7, 2) := by decide +kernel
theorem dX1_becomeWith_108 : decode cX1_becomeWith 108 = .ok (.iaload, 1) := by decide +kernel
theorem dX1_becomeWith_109 : decode cX1_becomeWith 109 = .ok (.iconst 1, 1) := by decide +kernel
theorem dX1_becomeWith_110 : decode cX1_becomeWith 110 = .ok (.iload_n 3, 1) := by decide +kernel
theorem dX1_becomeWith_111 : decode cX1_becomeWith 111 = .ok (.ishl, 1) := by decide +kernel
theorem dX1_becomeWith_112 : decode cX1_becomeWith 112 = .ok (.ior, 1) := by decide +kernel
theorem dX1_becomeWith_113 : decode cX1_becomeWith 113 = .ok (.goto 10, 3) := by decide +kernel
theorem dX1_becomeWith_116 : decode cX1_becomeWith 116 = .ok (.aload_n 2, 1) := by decide +kernel
theorem dX1_becomeWith_117 : decode cX1_becomeWith 117 = .ok (.getfield 15, 3) := by decide +kernel
theorem dX1_becomeWith_120 : decode cX1_becomeWith 120 = .ok (.iload 7, 2) := by decide +kernel
theorem dX1_becomeWith_122 : decode cX1_becomeWith 122 = .ok (.iaload, 1) := by decide +kernel
theorem dX1_becomeWith_123 : decode cX1_becomeWith 123 = .ok (.invokevirtual 57, 3) := by decide +kernel
theorem dX1_becomeWith_126 : decode cX1_becomeWith 126 = .ok (.iinc 7 1, 3) := by decide +kernel
theorem dX1_becomeWith_129 : decode cX1_becomeWith 129 = .ok (.goto (-70), 3) := by decide +kernel
theorem dX1_becomeWith_132 : decode cX1_becomeWith 132 = .ok (.iload 5, 2) := by decide +kernel
theorem dX1_becomeWith_134 : decode cX1_becomeWith 134 = .ok (.aload_n 2, 1) := by decide +kernel
theorem dX1_becomeWith_135 : decode cX1_becomeWith 135 = .ok (.getfield 9, 3) := by decide +kernel
theorem dX1_becomeWith_138 : decode cX1_becomeWith 138 = .ok (.if_icmp .ne 11, 3) := by decide +kernel
theorem dX1_becomeWith_141 : decode cX1_becomeWith 141 = .ok (.aload_n 0, 1) := by decide +kernel
theorem dX1_becomeWith_142 : decode cX1_becomeWith 142 = .ok (.aload_n 1, 1) := by decide +kernel
theorem dX1_becomeWith_143 : decode cX1_becomeWith 143 = .ok (.iconst 1, 1) := by decide +kernel
theorem dX1_becomeWith_144 : decode cX1_becomeWith 144 = .ok (.iload_n 3, 1) := by decide +kernel
theorem dX1_becomeWith_145 : decode cX1_becomeWith 145 = .ok (.ishl, 1) := by decide +kernel
theorem dX1_becomeWith_146 : decode cX1_becomeWith 146 = .ok (.invokevirtual 57, 3) := by decide +kernel
theorem dX1_becomeWith_149 : decode cX1_becomeWith 149 = .ok (.iconst 1, 1) := by decide +kernel
theorem dX1_becomeWith_150 : decode cX1_becomeWith 150 = .ok (.ireturn, 1) := by decide +kernel
theorem dX2_init_0 : decode cX2_init 0 = .ok (.aload_n 0, 1) := by decide +kernel
theorem dX2_init_1 : decode cX2_init 1 = .ok (.invokespecial 5, 3) := by decide +kernel
theorem dX2_init_4 : decode cX2_init 4 = .ok (.aload_n 0, 1) := by decide +kernel
theorem dX2_init_5 : decode cX2_init 5 = .ok (.aconst_null, 1) := by decide +kernel
theorem dX2_init_6 : decode cX2_init 6 = .ok (.putfield 11, 3) := by decide +kernel
theorem dX2_init_9 : decode cX2_init 9 = .ok (.aload_n 0, 1) := by decide +kernel
theorem dX2_init_10 : decode cX2_init 10 = .ok (.iconst 0, 1) := by decide +kernel
theorem dX2_init_11 : decode cX2_init 11 = .ok (.putfield 15, 3) := by decide +kernel
theorem dX2_init_14 : decode cX2_init 14 = .ok (.aload_n 0, 1) := by decide +kernel
theorem dX2_init_15 : decode cX2_init 15 = .ok (.sipush 128, 3) := by decide +kernel
theorem dX2_init_18 : decode cX2_init 18 = .ok (.newarray .int, 2) := by decide +kernel
theorem dX2_init_20 : decode cX2_init 20 = .ok (.putfield 19, 3) := by decide +kernel
theorem dX2_init_23 : decode cX2_init 23 = .ok (.aload_n 0, 1) := by decide +kernel
theorem dX2_init_24 : decode cX2_init 24 = .ok (.sipush 128, 3) := by decide +kernel
theorem dX2_init_27 : decode cX2_init 27 = .ok (.newarray .int, 2) := by decide +kernel
theorem dX2_init_29 : decode cX2_init 29 = .ok (.putfield 23, 3) := by decide +kernel
theorem dX2_init_32 : decode cX2_init 32 = .ok (.aload_n 0, 1) := by decide +kernel
theorem dX2_init_33 : decode cX2_init 33 = .ok (.iconst 0, 1) := by decide +kernel
theorem dX2_init_34 : decode cX2_init 34 = .ok (.putfield 26, 3) := by decide +kernel
theorem dX2_init_37 : decode cX2_init 37 = .ok (.aload_n 0, 1) := by decide +kernel
theorem dX2_init_38 : decode cX2_init 38 = .ok (.sipush 2048, 3) := by decide +kernel
theorem dX2_init_41 : decode cX2_init 41 = .ok (.newarray .int, 2) := by decide +kernel
theorem dX2_init_43 : decode cX2_init 43 = .ok (.putfield 29, 3) := by decide +kernel
theorem dX2_init_46 : decode cX2_init 46 = .ok (.aload_n 0, 1) := by decide +kernel
theorem dX2_init_47 : decode cX2_init 47 = .ok (.sipush 2048, 3) := by decide +kernel
theorem dX2_init_50 : decode cX2_init 50 = .ok (.newarray .int, 2) := by decide +kernel
theorem dX2_init_52 : decode cX2_init 52 = .ok (.putfield 32, 3) := by decide +kernel
theorem dX2_init_55 : decode cX2_init 55 = .ok (.return_, 1) := by decide +kernel
theorem dX2_leastOf_0 : decode cX2_leastOf 0 = .ok (.aload_n 0, 1) := by decide +kernel
theorem dX2_leastOf_1 : decode cX2_leastOf 1 = .ok (.aload_n 1, 1) := by decide +kernel
theorem dX2_leastOf_2 : decode cX2_leastOf 2 = .ok (.putfield 11, 3) := by decide +kernel
theorem dX2_leastOf_5 : decode cX2_leastOf 5 = .ok (.aload_n 0, 1) := by decide +kernel
theorem dX2_leastOf_6 : decode cX2_leastOf 6 = .ok (.iload_n 2, 1) := by decide +kernel
theorem dX2_leastOf_7 : decode cX2_leastOf 7 = .ok (.putfield 15, 3) := by decide +kernel
theorem dX2_leastOf_10 : decode cX2_leastOf 10 = .ok (.aload_n 0, 1) := by decide +kernel
theorem dX2_leastOf_11 : decode cX2_leastOf 11 = .ok (.invokevirtual 35, 3) := by decide +kernel
theorem dX2_leastOf_14 : decode cX2_leastOf 14 = .ok (.aload_n 0, 1) := by decide +kernel
theorem dX2_leastOf_15 : decode cX2_leastOf 15 = .ok (.invokevirtual 38, 3) := by decide +kernel
theorem dX2_leastOf_18 : decode cX2_leastOf 18 = .ok (.aload_n 0, 1) := by decide +kernel
theorem dX2_leastOf_19 : decode cX2_leastOf 19 = .ok (.aload_n 0, 1) := by decide +kernel
theorem dX2_leastOf_20 : decode cX2_leastOf 20 = .ok (.getfield 11, 3) := by decide +kernel
theorem dX2_leastOf_23 : decode cX2_leastOf 23 = .ok (.invokevirtual 41, 3) := by decide +kernel
theorem dX2_leastOf_26 : decode cX2_leastOf 26 = .ok (.iconst 3, 1) := by decide +kernel
theorem dX2_leastOf_27 : decode cX2_leastOf 27 = .ok (.iconst 0, 1) := by decide +kernel
theorem dX2_leastOf_28 : decode cX2_leastOf 28 = .ok (.iconst 0, 1) := by decide +kernel
theorem dX2_leastOf_29 : decode cX2_leastOf 29 = .ok (.invokevirtual 47, 3) := by decide +kernel
theorem dX2_leastOf_32 : decode cX2_leastOf 32 = .ok (.ireturn, 1) := by decide +kernel
theorem dX2_layFirst_0 : decode cX2_layFirst 0 = .ok (.aload_n 2, 1) := by decide +kernel
theorem dX2_layFirst_1 : decode cX2_layFirst 1 = .ok (.invokevirtual 51, 3) := by decide +kernel
theorem dX2_layFirst_4 : decode cX2_layFirst 4 = .ok (.aload_n 0, 1) := by decide +kernel
theorem dX2_layFirst_5 : decode cX2_layFirst 5 = .ok (.getfield 11, 3) := by decide +kernel
theorem dX2_layFirst_8 : decode cX2_layFirst 8 = .ok (.ifnonnull 4, 3) := by decide +kernel
theorem dX2_layFirst_11 : decode cX2_layFirst 11 = .ok (.return_, 1) := by decide +kernel
theorem dX2_layFirst_12 : decode cX2_layFirst 12 = .ok (.aload_n 0, 1) := by decide +kernel
theorem dX2_layFirst_13 : decode cX2_layFirst 13 = .ok (.getfield 11, 3) := by decide +kernel
theorem dX2_layFirst_16 : decode cX2_layFirst 16 = .ok (.invokevirtual 41, 3) := by decide +kernel
theorem dX2_layFirst_19 : decode cX2_layFirst 19 = .ok (.istore_n 3, 1) := by decide +kernel
theorem dX2_layFirst_20 : decode cX2_layFirst 20 = .ok (.iconst 3, 1) := by decide +kernel
theorem dX2_layFirst_21 : decode cX2_layFirst 21 = .ok (.istore 4, 2) := by decide +kernel
theorem dX2_layFirst_23 : decode cX2_layFirst 23 = .ok (.iconst 0, 1) := by decide +kernel
theorem dX2_layFirst_24 : decode cX2_layFirst 24 = .ok (.istore 5, 2) := by decide +kernel
theorem dX2_layFirst_26 : decode cX2_layFirst 26 = .ok (.iconst 0, 1) := by decide +kernel
theorem dX2_layFirst_27 : decode cX2_layFirst 27 = .ok (.istore 6, 2) := by decide +kernel
theorem dX2_layFirst_29 : decode cX2_layFirst 29 = .ok (.iload 6, 2) := by decide +kernel
theorem dX2_layFirst_31 : decode cX2_layFirst 31 = .ok (.bipush 7, 2) := by decide +kernel
theorem dX2_layFirst_33 : decode cX2_layFirst 33 = .ok (.if_icmp .ge 82, 3) := by decide +kernel
theorem dX2_layFirst_36 : decode cX2_layFirst 36 = .ok (.iload_n 3, 1) := by decide +kernel
theorem dX2_layFirst_37 : decode cX2_layFirst 37 = .ok (.ifCond .eq 78, 3) := by decide +kernel
theorem dX2_layFirst_40 : decode cX2_layFirst 40 = .ok (.aload_n 2, 1) := by decide +kernel
theorem dX2_layFirst_41 : decode cX2_layFirst 41 = .ok (.invokevirtual 56, 3) := by decide +kernel
theorem dX2_layFirst_44 : decode cX2_layFirst 44 = .ok (.istore 7, 2) := by decide +kernel
theorem dX2_layFirst_46 : decode cX2_layFirst 46 = .ok (.aload_n 0, 1) := by decide +kernel
theorem dX2_layFirst_47 : decode cX2_layFirst 47 = .ok (.iload_n 3, 1) := by decide +kernel
theorem dX2_layFirst_48 : decode cX2_layFirst 48 = .ok (.iload 4, 2) := by decide +kernel
theorem dX2_layFirst_50 : decode cX2_layFirst 50 = .ok (.iload 7, 2) := by decide +kernel
theorem dX2_layFirst_52 : decode cX2_layFirst 52 = .ok (.iload 5, 2) := by decide +kernel
theorem dX2_layFirst_54 : decode cX2_layFirst 54 = .ok (.iload_n 1, 1) := by decide +kernel
theorem dX2_layFirst_55 : decode cX2_layFirst 55 = .ok (.invokevirtual 59, 3) := by decide +kernel
theorem dX2_layFirst_58 : decode cX2_layFirst 58 = .ok (.istore 8, 2) := by decide +kernel
theorem dX2_layFirst_60 : decode cX2_layFirst 60 = .ok (.aload_n 2, 1) := by decide +kernel
theorem dX2_layFirst_61 : decode cX2_layFirst 61 = .ok (.aload_n 0, 1) := by decide +kernel
theorem dX2_layFirst_62 : decode cX2_layFirst 62 = .ok (.getfield 11, 3) := by decide +kernel
theorem dX2_layFirst_65 : decode cX2_layFirst 65 = .ok (.iload 8, 2) := by decide +kernel
theorem dX2_layFirst_67 : decode cX2_layFirst 67 = .ok (.invokevirtual 63, 3) := by decide +kernel
theorem dX2_layFirst_70 : decode cX2_layFirst 70 = .ok (.aload_n 0, 1) := by decide +kernel
theorem dX2_layFirst_71 : decode cX2_layFirst 71 = .ok (.getfield 15, 3) := by decide +kernel
theorem dX2_layFirst_74 : decode cX2_layFirst 74 = .ok (.iload 5, 2) := by decide +kernel
theorem dX2_layFirst_76 : decode cX2_layFirst 76 = .ok (.aload_n 0, 1) := by decide +kernel
theorem dX2_layFirst_77 : decode cX2_layFirst 77 = .ok (.iload 8, 2) := by decide +kernel
theorem dX2_layFirst_79 : decode cX2_layFirst 79 = .ok (.iload 7, 2) := by decide +kernel
theorem dX2_layFirst_81 : decode cX2_layFirst 81 = .ok (.aload_n 2, 1) := by decide +kernel
theorem dX2_layFirst_82 : decode cX2_layFirst 82 = .ok (.invokevirtual 56, 3) := by decide +kernel
theorem dX2_layFirst_85 : decode cX2_layFirst 85 = .ok (.invokevirtual 67, 3) := by decide +kernel
theorem dX2_layFirst_88 : decode cX2_layFirst 88 = .ok (.invokestatic 71, 3) := by decide +kernel
theorem dX2_layFirst_91 : decode cX2_layFirst 91 = .ok (.istore 5, 2) := by decide +kernel
theorem dX2_layFirst_93 : decode cX2_layFirst 93 = .ok (.aload_n 0, 1) := by decide +kernel
theorem dX2_layFirst_94 : decode cX2_layFirst 94 = .ok (.getfield 19, 3) := by decide +kernel
theorem dX2_layFirst_97 : decode cX2_layFirst 97 = .ok (.iload 8, 2) := by decide +kernel
theorem dX2_layFirst_99 : decode cX2_layFirst 99 = .ok (.iaload, 1) := by decide +kernel
theorem dX2_layFirst_100 : decode cX2_layFirst 100 = .ok (.istore 4, 2) := by decide +kernel
theorem dX2_layFirst_102 : decode cX2_layFirst 102 = .ok (.iload_n 3, 1) := by decide +kernel
theorem dX2_layFirst_103 : decode cX2_layFirst 103 = .ok (.iload 8, 2) := by decide +kernel
theorem dX2_layFirst_105 : decode cX2_layFirst 105 = .ok (.iconst (-1), 1) := by decide +kernel
theorem dX2_layFirst_106 : decode cX2_layFirst 106 = .ok (.ixor, 1) := by decide +kernel
theorem dX2_layFirst_107 : decode cX2_layFirst 107 = .ok (.iand, 1) := by decide +kernel
theorem dX2_layFirst_108 : decode cX2_layFirst 108 = .ok (.istore_n 3, 1) := by decide +kernel
theorem dX2_layFirst_109 : decode cX2_layFirst 109 = .ok (.iinc 6 1, 3) := by decide +kernel
theorem dX2_layFirst_112 : decode cX2_layFirst 112 = .ok (.goto (-83), 3) := by decide +kernel
theorem dX2_layFirst_115 : decode cX2_layFirst 115 = .ok (.return_, 1) := by decide +kernel
theorem dX2_firstBatch_0 : decode cX2_firstBatch 0 = .ok (.iconst 1, 1) := by decide +kernel
theorem dX2_firstBatch_1 : decode cX2_firstBatch 1 = .ok (.istore 6, 2) := by decide +kernel
theorem dX2_firstBatch_3 : decode cX2_firstBatch 3 = .ok (.iload 6, 2) := by decide +kernel
theorem dX2_firstBatch_5 : decode cX2_firstBatch 5 = .ok (.iload_n 1, 1) := by decide +kernel
theorem dX2_firstBatch_6 : decode cX2_firstBatch 6 = .ok (.if_icmp .gt 99, 3) := by decide +kernel
theorem dX2_firstBatch_9 : decode cX2_firstBatch 9 = .ok (.aload_n 0, 1) := by decide +kernel
theorem dX2_firstBatch_10 : decode cX2_firstBatch 10 = .ok (.getfield 19, 3) := by decide +kernel
theorem dX2_firstBatch_13 : decode cX2_firstBatch 13 = .ok (.iload 6, 2) := by decide +kernel
theorem dX2_firstBatch_15 : decode cX2_firstBatch 15 = .ok (.iaload, 1) := by decide +kernel
theorem dX2_firstBatch_16 : decode cX2_firstBatch 16 = .ok (.istore 7, 2) := by decide +kernel
theorem dX2_firstBatch_18 : decode cX2_firstBatch 18 = .ok (.iload 6, 2) := by decide +kernel
theorem dX2_firstBatch_20 : decode cX2_firstBatch 20 = .ok (.iload_n 1, 1) := by decide +kernel
theorem dX2_firstBatch_21 : decode cX2_firstBatch 21 = .ok (.iconst (-1), 1) := by decide +kernel
theorem dX2_firstBatch_22 : decode cX2_firstBatch 22 = .ok (.ixor, 1) := by decide +kernel
theorem dX2_firstBatch_23 : decode cX2_firstBatch 23 = .ok (.iand, 1) := by decide +kernel
theorem dX2_firstBatch_24 : decode cX2_firstBatch 24 = .ok (.ifCond .ne 75, 3) := by decide +kernel
theorem dX2_firstBatch_27 : decode cX2_firstBatch 27 = .ok (.iload 7, 2) := by decide +kernel
theorem dX2_firstBatch_29 : decode cX2_firstBatch 29 = .ok (.iconst (-1), 1) := by decide +kernel
theorem dX2_firstBatch_30 : decode cX2_firstBatch 30 = .ok (.if_icmp .eq 69, 3) := by decide +kernel
theorem dX2_firstBatch_33 : decode cX2_firstBatch 33 = .ok (.iload_n 3, 1) := by decide +kernel
theorem dX2_firstBatch_34 : decode cX2_firstBatch 34 = .ok (.aload_n 0, 1) := by decide +kernel
theorem dX2_firstBatch_35 : decode cX2_firstBatch 35 = .ok (.getfield 11, 3) := by decide +kernel
theorem dX2_firstBatch_38 : decode cX2_firstBatch 38 = .ok (.iload_n 2, 1) := by decide +kernel
theorem dX2_firstBatch_39 : decode cX2_firstBatch 39 = .ok (.iload 7, 2) := by decide +kernel
theorem dX2_firstBatch_41 : decode cX2_firstBatch 41 = .ok (.invokevirtual 74, 3) := by decide +kernel
theorem dX2_firstBatch_44 : decode cX2_firstBatch 44 = .ok (.iadd, 1) := by decide +kernel
theorem dX2_firstBatch_45 : decode cX2_firstBatch 45 = .ok (.istore 8, 2) := by decide +kernel
theorem dX2_firstBatch_47 : decode cX2_firstBatch 47 = .ok (.aload_n 0, 1) := by decide +kernel
theorem dX2_firstBatch_48 : decode cX2_firstBatch 48 = .ok (.getfield 15, 3) := by decide +kernel
theorem dX2_firstBatch_51 : decode cX2_firstBatch 51 = .ok (.iload 4, 2) := by decide +kernel
theorem dX2_firstBatch_53 : decode cX2_firstBatch 53 = .ok (.aload_n 0, 1) := by decide +kernel
theorem dX2_firstBatch_54 : decode cX2_firstBatch 54 = .ok (.iload 6, 2) := by decide +kernel
theorem dX2_firstBatch_56 : decode cX2_firstBatch 56 = .ok (.iload_n 3, 1) := by decide +kernel
theorem dX2_firstBatch_57 : decode cX2_firstBatch 57 = .ok (.iload 8, 2) := by decide +kernel
theorem dX2_firstBatch_59 : decode cX2_firstBatch 59 = .ok (.invokevirtual 67, 3) := by decide +kernel
theorem dX2_firstBatch_62 : decode cX2_firstBatch 62 = .ok (.invokestatic 71, 3) := by decide +kernel
theorem dX2_firstBatch_65 : decode cX2_firstBatch 65 = .ok (.istore 9, 2) := by decide +kernel
theorem dX2_firstBatch_67 : decode cX2_firstBatch 67 = .ok (.aload_n 0, 1) := by decide +kernel
theorem dX2_firstBatch_68 : decode cX2_firstBatch 68 = .ok (.getfield 15, 3) := by decide +kernel
theorem dX2_firstBatch_71 : decode cX2_firstBatch 71 = .ok (.iload 9, 2) := by decide +kernel
theorem dX2_firstBatch_73 : decode cX2_firstBatch 73 = .ok (.aload_n 0, 1) := by decide +kernel
theorem dX2_firstBatch_74 : decode cX2_firstBatch 74 = .ok (.iload_n 1, 1) := by decide +kernel
theorem dX2_firstBatch_75 : decode cX2_firstBatch 75 = .ok (.iload 6, 2) := by decide +kernel
theorem dX2_firstBatch_77 : decode cX2_firstBatch 77 = .ok (.iconst (-1), 1) := by decide +kernel
theorem dX2_firstBatch_78 : decode cX2_firstBatch 78 = .ok (.ixor, 1) := by decide +kernel
theorem dX2_firstBatch_79 : decode cX2_firstBatch 79 = .ok (.iand, 1) := by decide +kernel
theorem dX2_firstBatch_80 : decode cX2_firstBatch 80 = .ok (.iload 7, 2) := by decide +kernel
theorem dX2_firstBatch_82 : decode cX2_firstBatch 82 = .ok (.iload 8, 2) := by decide +kernel
theorem dX2_firstBatch_84 : decode cX2_firstBatch 84 = .ok (.iconst 0, 1) := by decide +kernel
theorem dX2_firstBatch_85 : decode cX2_firstBatch 85 = .ok (.invokevirtual 47, 3) := by decide +kernel
theorem dX2_firstBatch_88 : decode cX2_firstBatch 88 = .ok (.invokestatic 71, 3) := by decide +kernel
theorem dX2_firstBatch_91 : decode cX2_firstBatch 91 = .ok (.iload 5, 2) := by decide +kernel
theorem dX2_firstBatch_93 : decode cX2_firstBatch 93 = .ok (.if_icmp .gt 6, 3) := by decide +kernel
theorem dX2_firstBatch_96 : decode cX2_firstBatch 96 = .ok (.iload 6, 2) := by decide +kernel
theorem dX2_firstBatch_98 : decode cX2_firstBatch 98 = .ok (.ireturn, 1) := by decide +kernel
theorem dX2_firstBatch_99 : decode cX2_firstBatch 99 = .ok (.iinc 6 1, 3) := by decide +kernel
theorem dX2_firstBatch_102 : decode cX2_firstBatch 102 = .ok (.goto (-99), 3) := by decide +kernel
theorem dX2_firstBatch_105 : decode cX2_firstBatch 105 = .ok (.iload_n 1, 1) := by decide +kernel
theorem dX2_firstBatch_106 : decode cX2_firstBatch 106 = .ok (.iload_n 1, 1) := by decide +kernel
theorem dX2_firstBatch_107 : decode cX2_firstBatch 107 = .ok (.ineg, 1) := by decide +kernel
theorem dX2_firstBatch_108 : decode cX2_firstBatch 108 = .ok (.iand, 1) := by decide +kernel
theorem dX2_firstBatch_109 : decode cX2_firstBatch 109 = .ok (.ireturn, 1) := by decide +kernel
theorem dX2_listBatches_0 : decode cX2_listBatches 0 = .ok (.iconst 0, 1) := by decide +kernel
theorem dX2_listBatches_1 : decode cX2_listBatches 1 = .ok (.istore_n 1, 1) := by decide +kernel
theorem dX2_listBatches_2 : decode cX2_listBatches 2 = .ok (.iload_n 1, 1) := by decide +kernel
theorem dX2_listBatches_3 : decode cX2_listBatches 3 = .ok (.aload_n 0, 1) := by decide +kernel
theorem dX2_listBatches_4 : decode cX2_listBatches 4 = .ok (.getfield 11, 3) := by decide +kernel
theorem dX2_listBatches_7 : decode cX2_listBatches 7 = .ok (.getfield 78, 3) := by decide +kernel
theorem dX2_listBatches_10 : decode cX2_listBatches 10 = .ok (.if_icmp .ge 30, 3) := by decide +kernel
theorem dX2_listBatches_13 : decode cX2_listBatches 13 = .ok (.iconst 0, 1) := by decide +kernel
theorem dX2_listBatches_14 : decode cX2_listBatches 14 = .ok (.istore_n 2, 1) := by decide +kernel
theorem dX2_listBatches_15 : decode cX2_listBatches 15 = .ok (.iload_n 2, 1) := by decide +kernel
theorem dX2_listBatches_16 : decode cX2_listBatches 16 = .ok (.iconst 1, 1) := by decide +kernel
theorem dX2_listBatches_17 : decode cX2_listBatches 17 = .ok (.iload_n 1, 1) := by decide +kernel
theorem dX2_listBatches_18 : decode cX2_listBatches 18 = .ok (.ishl, 1) := by decide +kernel
theorem dX2_listBatches_19 : decode cX2_listBatches 19 = .ok (.if_icmp .ge 15, 3) := by decide +kernel
theorem dX2_listBatches_22 : decode cX2_listBatches 22 = .ok (.aload_n 0, 1) := by decide +kernel
theorem dX2_listBatches_23 : decode cX2_listBatches 23 = .ok (.iload_n 2, 1) := by decide +kernel
theorem dX2_listBatches_24 : decode cX2_listBatches 24 = .ok (.iload_n 1, 1) := by decide +kernel
theorem dX2_listBatches_25 : decode cX2_listBatches 25 = .ok (.invokevirtual 81, 3) := by decide +kernel
theorem dX2_listBatches_28 : decode cX2_listBatches 28 = .ok (.iinc 2 1, 3) := by decide +kernel
theorem dX2_listBatches_31 : decode cX2_listBatches 31 = .ok (.goto (-16), 3) := by decide +kernel
theorem dX2_listBatches_34 : decode cX2_listBatches 34 = .ok (.iinc 1 1, 3) := by decide +kernel
theorem dX2_listBatches_37 : decode cX2_listBatches 37 = .ok (.goto (-35), 3) := by decide +kernel
theorem dX2_listBatches_40 : decode cX2_listBatches 40 = .ok (.return_, 1) := by decide +kernel
theorem dX2_listBatch_0 : decode cX2_listBatch 0 = .ok (.iload_n 1, 1) := by decide +kernel
theorem dX2_listBatch_1 : decode cX2_listBatch 1 = .ok (.iconst 1, 1) := by decide +kernel
theorem dX2_listBatch_2 : decode cX2_listBatch 2 = .ok (.iload_n 2, 1) := by decide +kernel
theorem dX2_listBatch_3 : decode cX2_listBatch 3 = .ok (.ishl, 1) := by decide +kernel
theorem dX2_listBatch_4 : decode cX2_listBatch 4 = .ok (.ior, 1) := by decide +kernel
theorem dX2_listBatch_5 : decode cX2_listBatch 5 = .ok (.istore_n 3, 1) := by decide +kernel
theorem dX2_listBatch_6 : decode cX2_listBatch 6 = .ok (.aload_n 0, 1) := by decide +kernel
theorem dX2_listBatch_7 : decode cX2_listBatch 7 = .ok (.getfield 11, 3) := by decide +kernel
theorem dX2_listBatch_10 : decode cX2_listBatch 10 = .ok (.getfield 85, 3) := by decide +kernel
theorem dX2_listBatch_13 : decode cX2_listBatch 13 = .ok (.iload_n 2, 1) := by decide +kernel
theorem dX2_listBatch_14 : decode cX2_listBatch 14 = .ok (.iaload, 1) := by decide +kernel
theorem dX2_listBatch_15 : decode cX2_listBatch 15 = .ok (.istore 4, 2) := by decide +kernel
theorem dX2_listBatch_17 : decode cX2_listBatch 17 = .ok (.aload_n 0, 1) := by decide +kernel
theorem dX2_listBatch_18 : decode cX2_listBatch 18 = .ok (.getfield 11, 3) := by decide +kernel
theorem dX2_listBatch_21 : decode cX2_listBatch 21 = .ok (.getfield 88, 3) := by decide +kernel
theorem dX2_listBatch_24 : decode cX2_listBatch 24 = .ok (.iload_n 2, 1) := by decide +kernel
theorem dX2_listBatch_25 : decode cX2_listBatch 25 = .ok (.iaload, 1) := by decide +kernel
theorem dX2_listBatch_26 : decode cX2_listBatch 26 = .ok (.istore 5, 2) := by decide +kernel
theorem dX2_listBatch_28 : decode cX2_listBatch 28 = .ok (.iload_n 1, 1) := by decide +kernel
theorem dX2_listBatch_29 : decode cX2_listBatch 29 = .ok (.ifCond .eq 40, 3) := by decide +kernel
theorem dX2_listBatch_32 : decode cX2_listBatch 32 = .ok (.iload 5, 2) := by decide +kernel
theorem dX2_listBatch_34 : decode cX2_listBatch 34 = .ok (.aload_n 0, 1) := by decide +kernel
theorem dX2_listBatch_35 : decode cX2_listBatch 35 = .ok (.getfield 23, 3) := by decide +kernel
theorem dX2_listBatch_38 : decode cX2_listBatch 38 = .ok (.iload_n 1, 1) := by decide +kernel
theorem dX2_listBatch_39 : decode cX2_listBatch 39 = .ok (.iaload, 1) := by decide +kernel
theorem dX2_listBatch_40 : decode cX2_listBatch 40 = .ok (.iadd, 1) := by decide +kernel
theorem dX2_listBatch_41 : decode cX2_listBatch 41 = .ok (.istore 5, 2) := by decide +kernel
theorem dX2_listBatch_43 : decode cX2_listBatch 43 = .ok (.aload_n 0, 1) := by decide +kernel
theorem dX2_listBatch_44 : decode cX2_listBatch 44 = .ok (.getfield 19, 3) := by decide +kernel
theorem dX2_listBatch_47 : decode cX2_listBatch 47 = .ok (.iload_n 1, 1) := by decide +kernel
theorem dX2_listBatch_48 : decode cX2_listBatch 48 = .ok (.iaload, 1) := by decide +kernel
theorem dX2_listBatch_49 : decode cX2_listBatch 49 = .ok (.iload 4, 2) := by decide +kernel
theorem dX2_listBatch_51 : decode cX2_listBatch 51 = .ok (.if_icmp .ne 15, 3) := by decide +kernel
theorem dX2_listBatch_54 : decode cX2_listBatch 54 = .ok (.iload 5, 2) := by decide +kernel
theorem dX2_listBatch_56 : decode cX2_listBatch 56 = .ok (.aload_n 0, 1) := by decide +kernel
theorem dX2_listBatch_57 : decode cX2_listBatch 57 = .ok (.getfield 11, 3) := by decide +kernel
theorem dX2_listBatch_60 : decode cX2_listBatch 60 = .ok (.getfield 91, 3) := by decide +kernel
theorem dX2_listBatch_63 : decode cX2_listBatch 63 = .ok (.if_icmp .le 6, 3) := by decide +kernel
theorem dX2_listBatch_66 : decode cX2_listBatch 66 = .ok (.iconst (-1), 1) := by decide +kernel
theorem dX2_listBatch_67 : decode cX2_listBatch 67 = .ok (.istore 4, 2) := by decide +kernel
theorem dX2_listBatch_69 : decode cX2_listBatch 69 = .ok (.aload_n 0, 1) := by decide +kernel
theorem dX2_listBatch_70 : decode cX2_listBatch 70 = .ok (.getfield 19, 3) := by decide +kernel
theorem dX2_listBatch_73 : decode cX2_listBatch 73 = .ok (.iload_n 3, 1) := by decide +kernel
theorem dX2_listBatch_74 : decode cX2_listBatch 74 = .ok (.iload 4, 2) := by decide +kernel
theorem dX2_listBatch_76 : decode cX2_listBatch 76 = .ok (.iastore, 1) := by decide +kernel
theorem dX2_listBatch_77 : decode cX2_listBatch 77 = .ok (.aload_n 0, 1) := by decide +kernel
theorem dX2_listBatch_78 : decode cX2_listBatch 78 = .ok (.getfield 23, 3) := by decide +kernel
theorem dX2_listBatch_81 : decode cX2_listBatch 81 = .ok (.iload_n 3, 1) := by decide +kernel
theorem dX2_listBatch_82 : decode cX2_listBatch 82 = .ok (.iload 5, 2) := by decide +kernel
theorem dX2_listBatch_84 : decode cX2_listBatch 84 = .ok (.iastore, 1) := by decide +kernel
theorem dX2_listBatch_85 : decode cX2_listBatch 85 = .ok (.return_, 1) := by decide +kernel
theorem dX2_forgetFinds_0 : decode cX2_forgetFinds 0 = .ok (.aload_n 0, 1) := by decide +kernel
theorem dX2_forgetFinds_1 : decode cX2_forgetFinds 1 = .ok (.dup, 1) := by decide +kernel
theorem dX2_forgetFinds_2 : decode cX2_forgetFinds 2 = .ok (.getfield 26, 3) := by decide +kernel
theorem dX2_forgetFinds_5 : decode cX2_forgetFinds 5 = .ok (.iconst 1, 1) := by decide +kernel
theorem dX2_forgetFinds_6 : decode cX2_forgetFinds 6 = .ok (.iadd, 1) := by decide +kernel
theorem dX2_forgetFinds_7 : decode cX2_forgetFinds 7 = .ok (.putfield 26, 3) := by decide +kernel
theorem dX2_forgetFinds_10 : decode cX2_forgetFinds 10 = .ok (.aload_n 0, 1) := by decide +kernel
theorem dX2_forgetFinds_11 : decode cX2_forgetFinds 11 = .ok (.getfield 26, 3) := by decide +kernel
theorem dX2_forgetFinds_14 : decode cX2_forgetFinds 14 = .ok (.sipush 8191, 3) := by decide +kernel
theorem dX2_forgetFinds_17 : decode cX2_forgetFinds 17 = .ok (.if_icmp .le 16, 3) := by decide +kernel
theorem dX2_forgetFinds_20 : decode cX2_forgetFinds 20 = .ok (.aload_n 0, 1) := by decide +kernel
theorem dX2_forgetFinds_21 : decode cX2_forgetFinds 21 = .ok (.getfield 29, 3) := by decide +kernel
theorem dX2_forgetFinds_24 : decode cX2_forgetFinds 24 = .ok (.iconst 0, 1) := by decide +kernel
theorem dX2_forgetFinds_25 : decode cX2_forgetFinds 25 = .ok (.invokestatic 94, 3) := by decide +kernel
theorem dX2_forgetFinds_28 : decode cX2_forgetFinds 28 = .ok (.aload_n 0, 1) := by decide +kernel
theorem dX2_forgetFinds_29 : decode cX2_forgetFinds 29 = .ok (.iconst 1, 1) := by decide +kernel
theorem dX2_forgetFinds_30 : decode cX2_forgetFinds 30 = .ok (.putfield 26, 3) := by decide +kernel
theorem dX2_forgetFinds_33 : decode cX2_forgetFinds 33 = .ok (.return_, 1) := by decide +kernel
theorem dX2_leastLeft_0 : decode cX2_leastLeft 0 = .ok (.iload_n 1, 1) := by decide +kernel
theorem dX2_leastLeft_1 : decode cX2_leastLeft 1 = .ok (.ifCond .eq 10, 3) := by decide +kernel
theorem dX2_leastLeft_4 : decode cX2_leastLeft 4 = .ok (.iload 4, 2) := by decide +kernel
theorem dX2_leastLeft_6 : decode cX2_leastLeft 6 = .ok (.bipush 7, 2) := by decide +kernel
theorem dX2_leastLeft_8 : decode cX2_leastLeft 8 = .ok (.if_icmp .le 5, 3) := by decide +kernel
theorem dX2_leastLeft_11 : decode cX2_leastLeft 11 = .ok (.iconst 0, 1) := by decide +kernel
theorem dX2_leastLeft_12 : decode cX2_leastLeft 12 = .ok (.ireturn, 1) := by decide +kernel
theorem dX2_leastLeft_13 : decode cX2_leastLeft 13 = .ok (.aload_n 0, 1) := by decide +kernel
theorem dX2_leastLeft_14 : decode cX2_leastLeft 14 = .ok (.getfield 15, 3) := by decide +kernel
theorem dX2_leastLeft_17 : decode cX2_leastLeft 17 = .ok (.invokestatic 100, 3) := by decide +kernel
theorem dX2_leastLeft_20 : decode cX2_leastLeft 20 = .ok (.ifCond .eq 7, 3) := by decide +kernel
theorem dX2_leastLeft_23 : decode cX2_leastLeft 23 = .ok (.iload_n 3, 1) := by decide +kernel
theorem dX2_leastLeft_24 : decode cX2_leastLeft 24 = .ok (.goto 4, 3) := by decide +kernel
theorem dX2_leastLeft_27 : decode cX2_leastLeft 27 = .ok (.iconst 0, 1) := by decide +kernel
theorem dX2_leastLeft_28 : decode cX2_leastLeft 28 = .ok (.istore 5, 2) := by decide +kernel
theorem dX2_leastLeft_30 : decode cX2_leastLeft 30 = .ok (.iload_n 1, 1) := by decide +kernel
theorem dX2_leastLeft_31 : decode cX2_leastLeft 31 = .ok (.invokestatic 104, 3) := by decide +kernel
theorem dX2_leastLeft_34 : decode cX2_leastLeft 34 = .ok (.iconst 1, 1) := by decide +kernel
theorem dX2_leastLeft_35 : decode cX2_leastLeft 35 = .ok (.if_icmp .ne 28, 3) := by decide +kernel
theorem dX2_leastLeft_38 : decode cX2_leastLeft 38 = .ok (.aload_n 0, 1) := by decide +kernel
theorem dX2_leastLeft_39 : decode cX2_leastLeft 39 = .ok (.iload_n 1, 1) := by decide +kernel
theorem dX2_leastLeft_40 : decode cX2_leastLeft 40 = .ok (.iload 5, 2) := by decide +kernel
theorem dX2_leastLeft_42 : decode cX2_leastLeft 42 = .ok (.iload 5, 2) := by decide +kernel
theorem dX2_leastLeft_44 : decode cX2_leastLeft 44 = .ok (.aload_n 0, 1) := by decide +kernel
theorem dX2_leastLeft_45 : decode cX2_leastLeft 45 = .ok (.getfield 11, 3) := by decide +kernel
theorem dX2_leastLeft_48 : decode cX2_leastLeft 48 = .ok (.iload_n 2, 1) := by decide +kernel
theorem dX2_leastLeft_49 : decode cX2_leastLeft 49 = .ok (.aload_n 0, 1) := by decide +kernel
theorem dX2_leastLeft_50 : decode cX2_leastLeft 50 = .ok (.getfield 19, 3) := by decide +kernel
theorem dX2_leastLeft_53 : decode cX2_leastLeft 53 = .ok (.iload_n 1, 1) := by decide +kernel
theorem dX2_leastLeft_54 : decode cX2_leastLeft 54 = .ok (.iaload, 1) := by decide +kernel
theorem dX2_leastLeft_55 : decode cX2_leastLeft 55 = .ok (.invokevirtual 74, 3) := by decide +kernel
theorem dX2_leastLeft_58 : decode cX2_leastLeft 58 = .ok (.iadd, 1) := by decide +kernel
theorem dX2_leastLeft_59 : decode cX2_leastLeft 59 = .ok (.invokevirtual 67, 3) := by decide +kernel
theorem dX2_leastLeft_62 : decode cX2_leastLeft 62 = .ok (.ireturn, 1) := by decide +kernel
theorem dX2_leastLeft_63 : decode cX2_leastLeft 63 = .ok (.aload_n 0, 1) := by decide +kernel
theorem dX2_leastLeft_64 : decode cX2_leastLeft 64 = .ok (.getfield 26, 3) := by decide +kernel
theorem dX2_leastLeft_67 : decode cX2_leastLeft 67 = .ok (.bipush 7, 2) := by decide +kernel
theorem dX2_leastLeft_69 : decode cX2_leastLeft 69 = .ok (.ishl, 1) := by decide +kernel
theorem dX2_leastLeft_70 : decode cX2_leastLeft 70 = .ok (.iload_n 1, 1) := by decide +kernel
theorem dX2_leastLeft_71 : decode cX2_leastLeft 71 = .ok (.ior, 1) := by decide +kernel
theorem dX2_leastLeft_72 : decode cX2_leastLeft 72 = .ok (.iconst 2, 1) := by decide +kernel
theorem dX2_leastLeft_73 : decode cX2_leastLeft 73 = .ok (.ishl, 1) := by decide +kernel
theorem dX2_leastLeft_74 : decode cX2_leastLeft 74 = .ok (.iload_n 2, 1) := by decide +kernel
theorem dX2_leastLeft_75 : decode cX2_leastLeft 75 = .ok (.ior, 1) := by decide +kernel
theorem dX2_leastLeft_76 : decode cX2_leastLeft 76 = .ok (.bipush 9, 2) := by decide +kernel
theorem dX2_leastLeft_78 : decode cX2_leastLeft 78 = .ok (.ishl, 1) := by decide +kernel
theorem dX2_leastLeft_79 : decode cX2_leastLeft 79 = .ok (.iload 5, 2) := by decide +kernel
theorem dX2_leastLeft_81 : decode cX2_leastLeft 81 = .ok (.ior, 1) := by decide +kernel
theorem dX2_leastLeft_82 : decode cX2_leastLeft 82 = .ok (.istore 6, 2) := by decide +kernel
theorem dX2_leastLeft_84 : decode cX2_leastLeft 84 = .ok (.aload_n 0, 1) := by decide +kernel
theorem dX2_leastLeft_85 : decode cX2_leastLeft 85 = .ok (.iload 6, 2) := by decide +kernel
theorem dX2_leastLeft_87 : decode cX2_leastLeft 87 = .ok (.invokevirtual 110, 3) := by decide +kernel
theorem dX2_leastLeft_90 : decode cX2_leastLeft 90 = .ok (.istore 7, 2) := by decide +kernel
theorem dX2_leastLeft_92 : decode cX2_leastLeft 92 = .ok (.aload_n 0, 1) := by decide +kernel
theorem dX2_leastLeft_93 : decode cX2_leastLeft 93 = .ok (.getfield 29, 3) := by decide +kernel
theorem dX2_leastLeft_96 : decode cX2_leastLeft 96 = .ok (.iload 7, 2) := by decide +kernel
theorem dX2_leastLeft_98 : decode cX2_leastLeft 98 = .ok (.iaload, 1) := by decide +kernel
theorem dX2_leastLeft_99 : decode cX2_leastLeft 99 = .ok (.iload 6, 2) := by decide +kernel
theorem dX2_leastLeft_101 : decode cX2_leastLeft 101 = .ok (.if_icmp .ne 11, 3) := by decide +kernel
theorem dX2_leastLeft_104 : decode cX2_leastLeft 104 = .ok (.aload_n 0, 1) := by decide +kernel
theorem dX2_leastLeft_105 : decode cX2_leastLeft 105 = .ok (.getfield 32, 3) := by decide +kernel
theorem dX2_leastLeft_108 : decode cX2_leastLeft 108 = .ok (.iload 7, 2) := by decide +kernel
theorem dX2_leastLeft_110 : decode cX2_leastLeft 110 = .ok (.iaload, 1) := by decide +kernel
theorem dX2_leastLeft_111 : decode cX2_leastLeft 111 = .ok (.ireturn, 1) := by decide +kernel
theorem dX2_leastLeft_112 : decode cX2_leastLeft 112 = .ok (.ldc 113, 2) := by decide +kernel
theorem dX2_leastLeft_114 : decode cX2_leastLeft 114 = .ok (.istore 8, 2) := by decide +kernel
theorem dX2_leastLeft_116 : decode cX2_leastLeft 116 = .ok (.iload_n 1, 1) := by decide +kernel
theorem dX2_leastLeft_117 : decode cX2_leastLeft 117 = .ok (.istore 9, 2) := by decide +kernel
theorem dX2_leastLeft_119 : decode cX2_leastLeft 119 = .ok (.iload 9, 2) := by decide +kernel
theorem dX2_leastLeft_121 : decode cX2_leastLeft 121 = .ok (.ifCond .le 101, 3) := by decide +kernel
theorem dX2_leastLeft_124 : decode cX2_leastLeft 124 = .ok (.aload_n 0, 1) := by decide +kernel
theorem dX2_leastLeft_125 : decode cX2_leastLeft 125 = .ok (.getfield 19, 3) := by decide +kernel
theorem dX2_leastLeft_128 : decode cX2_leastLeft 128 = .ok (.iload 9, 2) := by decide +kernel
theorem dX2_leastLeft_130 : decode cX2_leastLeft 130 = .ok (.iaload, 1) := by decide +kernel
theorem dX2_leastLeft_131 : decode cX2_leastLeft 131 = .ok (.istore 10, 2) := by decide +kernel
theorem dX2_leastLeft_133 : decode cX2_leastLeft 133 = .ok (.iload 10, 2) := by decide +kernel
theorem dX2_leastLeft_135 : decode cX2_leastLeft 135 = .ok (.iconst (-1), 1) := by decide +kernel
theorem dX2_leastLeft_136 : decode cX2_leastLeft 136 = .ok (.if_icmp .eq 75, 3) := by decide +kernel
theorem dX2_leastLeft_139 : decode cX2_leastLeft 139 = .ok (.iload 5, 2) := by decide +kernel
theorem dX2_leastLeft_141 : decode cX2_leastLeft 141 = .ok (.aload_n 0, 1) := by decide +kernel
theorem dX2_leastLeft_142 : decode cX2_leastLeft 142 = .ok (.getfield 11, 3) := by decide +kernel
theorem dX2_leastLeft_145 : decode cX2_leastLeft 145 = .ok (.iload_n 2, 1) := by decide +kernel
theorem dX2_leastLeft_146 : decode cX2_leastLeft 146 = .ok (.iload 10, 2) := by decide +kernel
theorem dX2_leastLeft_148 : decode cX2_leastLeft 148 = .ok (.invokevirtual 74, 3) := by decide +kernel
theorem dX2_leastLeft_151 : decode cX2_leastLeft 151 = .ok (.iadd, 1) := by decide +kernel
theorem dX2_leastLeft_152 : decode cX2_leastLeft 152 = .ok (.istore 11, 2) := by decide +kernel
theorem dX2_leastLeft_154 : decode cX2_leastLeft 154 = .ok (.aload_n 0, 1) := by decide +kernel
theorem dX2_leastLeft_155 : decode cX2_leastLeft 155 = .ok (.iload 9, 2) := by decide +kernel
theorem dX2_leastLeft_157 : decode cX2_leastLeft 157 = .ok (.iload 5, 2) := by decide +kernel
theorem dX2_leastLeft_159 : decode cX2_leastLeft 159 = .ok (.iload 11, 2) := by decide +kernel
theorem dX2_leastLeft_161 : decode cX2_leastLeft 161 = .ok (.invokevirtual 67, 3) := by decide +kernel
theorem dX2_leastLeft_164 : decode cX2_leastLeft 164 = .ok (.istore 12, 2) := by decide +kernel
theorem dX2_leastLeft_166 : decode cX2_leastLeft 166 = .ok (.iload 12, 2) := by decide +kernel
theorem dX2_leastLeft_168 : decode cX2_leastLeft 168 = .ok (.iload 8, 2) := by decide +kernel
theorem dX2_leastLeft_170 : decode cX2_leastLeft 170 = .ok (.if_icmp .ge 41, 3) := by decide +kernel
theorem dX2_leastLeft_173 : decode cX2_leastLeft 173 = .ok (.aload_n 0, 1) := by decide +kernel
theorem dX2_leastLeft_174 : decode cX2_leastLeft 174 = .ok (.iload_n 1, 1) := by decide +kernel
theorem dX2_leastLeft_175 : decode cX2_leastLeft 175 = .ok (.iload 9, 2) := by decide +kernel
theorem dX2_leastLeft_177 : decode cX2_leastLeft 177 = .ok (.iconst (-1), 1) := by decide +kernel
theorem dX2_leastLeft_178 : decode cX2_leastLeft 178 = .ok (.ixor, 1) := by decide +kernel
theorem dX2_leastLeft_179 : decode cX2_leastLeft 179 = .ok (.iand, 1) := by decide +kernel
theorem dX2_leastLeft_180 : decode cX2_leastLeft 180 = .ok (.iload 10, 2) := by decide +kernel
theorem dX2_leastLeft_182 : decode cX2_leastLeft 182 = .ok (.iload 11, 2) := by decide +kernel
theorem dX2_leastLeft_184 : decode cX2_leastLeft 184 = .ok (.iload 4, 2) := by decide +kernel
theorem dX2_leastLeft_186 : decode cX2_leastLeft 186 = .ok (.iconst 1, 1) := by decide +kernel
theorem dX2_leastLeft_187 : decode cX2_leastLeft 187 = .ok (.iadd, 1) := by decide +kernel
theorem dX2_leastLeft_188 : decode cX2_leastLeft 188 = .ok (.invokevirtual 47, 3) := by decide +kernel
theorem dX2_leastLeft_191 : decode cX2_leastLeft 191 = .ok (.istore 13, 2) := by decide +kernel
theorem dX2_leastLeft_193 : decode cX2_leastLeft 193 = .ok (.iload 8, 2) := by decide +kernel
theorem dX2_leastLeft_195 : decode cX2_leastLeft 195 = .ok (.aload_n 0, 1) := by decide +kernel
theorem dX2_leastLeft_196 : decode cX2_leastLeft 196 = .ok (.getfield 15, 3) := by decide +kernel
theorem dX2_leastLeft_199 : decode cX2_leastLeft 199 = .ok (.iload 12, 2) := by decide +kernel
theorem dX2_leastLeft_201 : decode cX2_leastLeft 201 = .ok (.iload 13, 2) := by decide +kernel
theorem dX2_leastLeft_203 : decode cX2_leastLeft 203 = .ok (.invokestatic 71, 3) := by decide +kernel
theorem dX2_leastLeft_206 : decode cX2_leastLeft 206 = .ok (.invokestatic 114, 3) := by decide +kernel
theorem dX2_leastLeft_209 : decode cX2_leastLeft 209 = .ok (.istore 8, 2) := by decide +kernel
theorem dX2_leastLeft_211 : decode cX2_leastLeft 211 = .ok (.iload 9, 2) := by decide +kernel
theorem dX2_leastLeft_213 : decode cX2_leastLeft 213 = .ok (.iconst 1, 1) := by decide +kernel
theorem dX2_leastLeft_214 : decode cX2_leastLeft 214 = .ok (.isub, 1) := by decide +kernel
theorem dX2_leastLeft_215 : decode cX2_leastLeft 215 = .ok (.iload_n 1, 1) := by decide +kernel
theorem dX2_leastLeft_216 : decode cX2_leastLeft 216 = .ok (.iand, 1) := by decide +kernel
theorem dX2_leastLeft_217 : decode cX2_leastLeft 217 = .ok (.istore 9, 2) := by decide +kernel
theorem dX2_leastLeft_219 : decode cX2_leastLeft 219 = .ok (.goto (-100), 3) := by decide +kernel
theorem dX2_leastLeft_222 : decode cX2_leastLeft 222 = .ok (.aload_n 0, 1) := by decide +kernel
theorem dX2_leastLeft_223 : decode cX2_leastLeft 223 = .ok (.iload 6, 2) := by decide +kernel
theorem dX2_leastLeft_225 : decode cX2_leastLeft 225 = .ok (.iload 8, 2) := by decide +kernel
theorem dX2_leastLeft_227 : decode cX2_leastLeft 227 = .ok (.invokevirtual 119, 3) := by decide +kernel
theorem dX2_leastLeft_230 : decode cX2_leastLeft 230 = .ok (.iload 8, 2) := by decide +kernel
theorem dX2_leastLeft_232 : decode cX2_leastLeft 232 = .ok (.ireturn, 1) := by decide +kernel
theorem dX2_part_0 : decode cX2_part 0 = .ok (.aload_n 0, 1) := by decide +kernel
theorem dX2_part_1 : decode cX2_part 1 = .ok (.getfield 15, 3) := by decide +kernel
theorem dX2_part_4 : decode cX2_part 4 = .ok (.lookupswitch 34 #[(2, 28), (3, 32)], 28) := by decide +kernel
theorem dX2_part_32 : decode cX2_part 32 = .ok (.iload_n 3, 1) := by decide +kernel
theorem dX2_part_33 : decode cX2_part 33 = .ok (.iload_n 2, 1) := by decide +kernel
theorem dX2_part_34 : decode cX2_part 34 = .ok (.isub, 1) := by decide +kernel
theorem dX2_part_35 : decode cX2_part 35 = .ok (.ireturn, 1) := by decide +kernel
theorem dX2_part_36 : decode cX2_part 36 = .ok (.iconst 1, 1) := by decide +kernel
theorem dX2_part_37 : decode cX2_part 37 = .ok (.ireturn, 1) := by decide +kernel
theorem dX2_part_38 : decode cX2_part 38 = .ok (.aload_n 0, 1) := by decide +kernel
theorem dX2_part_39 : decode cX2_part 39 = .ok (.getfield 11, 3) := by decide +kernel
theorem dX2_part_42 : decode cX2_part 42 = .ok (.aload_n 0, 1) := by decide +kernel
theorem dX2_part_43 : decode cX2_part 43 = .ok (.getfield 15, 3) := by decide +kernel
theorem dX2_part_46 : decode cX2_part 46 = .ok (.iload_n 1, 1) := by decide +kernel
theorem dX2_part_47 : decode cX2_part 47 = .ok (.iload_n 3, 1) := by decide +kernel
theorem dX2_part_48 : decode cX2_part 48 = .ok (.invokevirtual 122, 3) := by decide +kernel
theorem dX2_part_51 : decode cX2_part 51 = .ok (.ireturn, 1) := by decide +kernel
theorem dX2_slotOf_0 : decode cX2_slotOf 0 = .ok (.iload_n 1, 1) := by decide +kernel
theorem dX2_slotOf_1 : decode cX2_slotOf 1 = .ok (.ldc 125, 2) := by decide +kernel
theorem dX2_slotOf_3 : decode cX2_slotOf 3 = .ok (.imul, 1) := by decide +kernel
theorem dX2_slotOf_4 : decode cX2_slotOf 4 = .ok (.bipush 21, 2) := by decide +kernel
theorem dX2_slotOf_6 : decode cX2_slotOf 6 = .ok (.iushr, 1) := by decide +kernel
theorem dX2_slotOf_7 : decode cX2_slotOf 7 = .ok (.istore_n 2, 1) := by decide +kernel
theorem dX2_slotOf_8 : decode cX2_slotOf 8 = .ok (.iconst 0, 1) := by decide +kernel
theorem dX2_slotOf_9 : decode cX2_slotOf 9 = .ok (.istore_n 3, 1) := by decide +kernel
theorem dX2_slotOf_10 : decode cX2_slotOf 10 = .ok (.iload_n 3, 1) := by decide +kernel
theorem dX2_slotOf_11 : decode cX2_slotOf 11 = .ok (.bipush 32, 2) := by decide +kernel
theorem dX2_slotOf_13 : decode cX2_slotOf 13 = .ok (.if_icmp .ge 49, 3) := by decide +kernel
theorem dX2_slotOf_16 : decode cX2_slotOf 16 = .ok (.iload_n 2, 1) := by decide +kernel
theorem dX2_slotOf_17 : decode cX2_slotOf 17 = .ok (.iload_n 3, 1) := by decide +kernel
theorem dX2_slotOf_18 : decode cX2_slotOf 18 = .ok (.iadd, 1) := by decide +kernel
theorem dX2_slotOf_19 : decode cX2_slotOf 19 = .ok (.sipush 2047, 3) := by decide +kernel
theorem dX2_slotOf_22 : decode cX2_slotOf 22 = .ok (.iand, 1) := by decide +kernel
theorem dX2_slotOf_23 : decode cX2_slotOf 23 = .ok (.istore 4, 2) := by decide +kernel
theorem dX2_slotOf_25 : decode cX2_slotOf 25 = .ok (.aload_n 0, 1) := by decide +kernel
theorem dX2_slotOf_26 : decode cX2_slotOf 26 = .ok (.getfield 29, 3) := by decide +kernel
theorem dX2_slotOf_29 : decode cX2_slotOf 29 = .ok (.iload 4, 2) := by decide +kernel
theorem dX2_slotOf_31 : decode cX2_slotOf 31 = .ok (.iaload, 1) := by decide +kernel
theorem dX2_slotOf_32 : decode cX2_slotOf 32 = .ok (.iload_n 1, 1) := by decide +kernel
theorem dX2_slotOf_33 : decode cX2_slotOf 33 = .ok (.if_icmp .eq 20, 3) := by decide +kernel
theorem dX2_slotOf_36 : decode cX2_slotOf 36 = .ok (.aload_n 0, 1) := by decide +kernel
theorem dX2_slotOf_37 : decode cX2_slotOf 37 = .ok (.getfield 29, 3) := by decide +kernel
theorem dX2_slotOf_40 : decode cX2_slotOf 40 = .ok (.iload 4, 2) := by decide +kernel
theorem dX2_slotOf_42 : decode cX2_slotOf 42 = .ok (.iaload, 1) := by decide +kernel
theorem dX2_slotOf_43 : decode cX2_slotOf 43 = .ok (.bipush 18, 2) := by decide +kernel
theorem dX2_slotOf_45 : decode cX2_slotOf 45 = .ok (.ishr, 1) := by decide +kernel
theorem dX2_slotOf_46 : decode cX2_slotOf 46 = .ok (.aload_n 0, 1) := by decide +kernel
theorem dX2_slotOf_47 : decode cX2_slotOf 47 = .ok (.getfield 26, 3) := by decide +kernel
theorem dX2_slotOf_50 : decode cX2_slotOf 50 = .ok (.if_icmp .eq 6, 3) := by decide +kernel
theorem dX2_slotOf_53 : decode cX2_slotOf 53 = .ok (.iload 4, 2) := by decide +kernel
theorem dX2_slotOf_55 : decode cX2_slotOf 55 = .ok (.ireturn, 1) := by decide +kernel
theorem dX2_slotOf_56 : decode cX2_slotOf 56 = .ok (.iinc 3 1, 3) := by decide +kernel
theorem dX2_slotOf_59 : decode cX2_slotOf 59 = .ok (.goto (-49), 3) := by decide +kernel
theorem dX2_slotOf_62 : decode cX2_slotOf 62 = .ok (.iload_n 2, 1) := by decide +kernel
theorem dX2_slotOf_63 : decode cX2_slotOf 63 = .ok (.ireturn, 1) := by decide +kernel
theorem dX2_keep_0 : decode cX2_keep 0 = .ok (.aload_n 0, 1) := by decide +kernel
theorem dX2_keep_1 : decode cX2_keep 1 = .ok (.iload_n 1, 1) := by decide +kernel
theorem dX2_keep_2 : decode cX2_keep 2 = .ok (.invokevirtual 110, 3) := by decide +kernel
theorem dX2_keep_5 : decode cX2_keep 5 = .ok (.istore_n 3, 1) := by decide +kernel
theorem dX2_keep_6 : decode cX2_keep 6 = .ok (.aload_n 0, 1) := by decide +kernel
theorem dX2_keep_7 : decode cX2_keep 7 = .ok (.getfield 29, 3) := by decide +kernel
theorem dX2_keep_10 : decode cX2_keep 10 = .ok (.iload_n 3, 1) := by decide +kernel
theorem dX2_keep_11 : decode cX2_keep 11 = .ok (.iload_n 1, 1) := by decide +kernel
theorem dX2_keep_12 : decode cX2_keep 12 = .ok (.iastore, 1) := by decide +kernel
theorem dX2_keep_13 : decode cX2_keep 13 = .ok (.aload_n 0, 1) := by decide +kernel
theorem dX2_keep_14 : decode cX2_keep 14 = .ok (.getfield 32, 3) := by decide +kernel
theorem dX2_keep_17 : decode cX2_keep 17 = .ok (.iload_n 3, 1) := by decide +kernel
theorem dX2_keep_18 : decode cX2_keep 18 = .ok (.iload_n 2, 1) := by decide +kernel
theorem dX2_keep_19 : decode cX2_keep 19 = .ok (.iastore, 1) := by decide +kernel
theorem dX2_keep_20 : decode cX2_keep 20 = .ok (.return_, 1) := by decide +kernel
theorem dX3_init_0 : decode cX3_init 0 = .ok (.aload_n 0, 1) := by decide +kernel
theorem dX3_init_1 : decode cX3_init 1 = .ok (.invokespecial 3, 3) := by decide +kernel
theorem dX3_init_4 : decode cX3_init 4 = .ok (.aload_n 0, 1) := by decide +kernel
theorem dX3_init_5 : decode cX3_init 5 = .ok (.iconst 4, 1) := by decide +kernel
theorem dX3_init_6 : decode cX3_init 6 = .ok (.newarray .int, 2) := by decide +kernel
theorem dX3_init_8 : decode cX3_init 8 = .ok (.dup, 1) := by decide +kernel
theorem dX3_init_9 : decode cX3_init 9 = .ok (.iconst 0, 1) := by decide +kernel
theorem dX3_init_10 : decode cX3_init 10 = .ok (.iconst 3, 1) := by decide +kernel
theorem dX3_init_11 : decode cX3_init 11 = .ok (.iastore, 1) := by decide +kernel
theorem dX3_init_12 : decode cX3_init 12 = .ok (.dup, 1) := by decide +kernel
theorem dX3_init_13 : decode cX3_init 13 = .ok (.iconst 1, 1) := by decide +kernel
theorem dX3_init_14 : decode cX3_init 14 = .ok (.bipush 6, 2) := by decide +kernel
theorem dX3_init_16 : decode cX3_init 16 = .ok (.iastore, 1) := by decide +kernel
theorem dX3_init_17 : decode cX3_init 17 = .ok (.dup, 1) := by decide +kernel
theorem dX3_init_18 : decode cX3_init 18 = .ok (.iconst 2, 1) := by decide +kernel
theorem dX3_init_19 : decode cX3_init 19 = .ok (.bipush 9, 2) := by decide +kernel
theorem dX3_init_21 : decode cX3_init 21 = .ok (.iastore, 1) := by decide +kernel
theorem dX3_init_22 : decode cX3_init 22 = .ok (.dup, 1) := by decide +kernel
theorem dX3_init_23 : decode cX3_init 23 = .ok (.iconst 3, 1) := by decide +kernel
theorem dX3_init_24 : decode cX3_init 24 = .ok (.iconst 0, 1) := by decide +kernel
theorem dX3_init_25 : decode cX3_init 25 = .ok (.iastore, 1) := by decide +kernel
theorem dX3_init_26 : decode cX3_init 26 = .ok (.putfield 9, 3) := by decide +kernel
theorem dX3_init_29 : decode cX3_init 29 = .ok (.aload_n 0, 1) := by decide +kernel
theorem dX3_init_30 : decode cX3_init 30 = .ok (.iconst 4, 1) := by decide +kernel
theorem dX3_init_31 : decode cX3_init 31 = .ok (.newarray .int, 2) := by decide +kernel
theorem dX3_init_33 : decode cX3_init 33 = .ok (.dup, 1) := by decide +kernel
theorem dX3_init_34 : decode cX3_init 34 = .ok (.iconst 0, 1) := by decide +kernel
theorem dX3_init_35 : decode cX3_init 35 = .ok (.iconst 5, 1) := by decide +kernel
theorem dX3_init_36 : decode cX3_init 36 = .ok (.iastore, 1) := by decide +kernel
theorem dX3_init_37 : decode cX3_init 37 = .ok (.dup, 1) := by decide +kernel
theorem dX3_init_38 : decode cX3_init 38 = .ok (.iconst 1, 1) := by decide +kernel
theorem dX3_init_39 : decode cX3_init 39 = .ok (.iconst 5, 1) := by decide +kernel
theorem dX3_init_40 : decode cX3_init 40 = .ok (.iastore, 1) := by decide +kernel
theorem dX3_init_41 : decode cX3_init 41 = .ok (.dup, 1) := by decide +kernel
theorem dX3_init_42 : decode cX3_init 42 = .ok (.iconst 2, 1) := by decide +kernel
theorem dX3_init_43 : decode cX3_init 43 = .ok (.iconst 5, 1) := by decide +kernel
theorem dX3_init_44 : decode cX3_init 44 = .ok (.iastore, 1) := by decide +kernel
theorem dX3_init_45 : decode cX3_init 45 = .ok (.dup, 1) := by decide +kernel
theorem dX3_init_46 : decode cX3_init 46 = .ok (.iconst 3, 1) := by decide +kernel
theorem dX3_init_47 : decode cX3_init 47 = .ok (.iconst 0, 1) := by decide +kernel
theorem dX3_init_48 : decode cX3_init 48 = .ok (.iastore, 1) := by decide +kernel
theorem dX3_init_49 : decode cX3_init 49 = .ok (.putfield 15, 3) := by decide +kernel
theorem dX3_init_52 : decode cX3_init 52 = .ok (.aload_n 0, 1) := by decide +kernel
theorem dX3_init_53 : decode cX3_init 53 = .ok (.bipush 10, 2) := by decide +kernel
theorem dX3_init_55 : decode cX3_init 55 = .ok (.putfield 18, 3) := by decide +kernel
theorem dX3_init_58 : decode cX3_init 58 = .ok (.aload_n 0, 1) := by decide +kernel
theorem dX3_init_59 : decode cX3_init 59 = .ok (.iconst 1, 1) := by decide +kernel
theorem dX3_init_60 : decode cX3_init 60 = .ok (.putfield 22, 3) := by decide +kernel
theorem dX3_init_63 : decode cX3_init 63 = .ok (.aload_n 0, 1) := by decide +kernel
theorem dX3_init_64 : decode cX3_init 64 = .ok (.iconst 1, 1) := by decide +kernel
theorem dX3_init_65 : decode cX3_init 65 = .ok (.putfield 25, 3) := by decide +kernel
theorem dX3_init_68 : decode cX3_init 68 = .ok (.aload_n 0, 1) := by decide +kernel
theorem dX3_init_69 : decode cX3_init 69 = .ok (.iconst 0, 1) := by decide +kernel
theorem dX3_init_70 : decode cX3_init 70 = .ok (.putfield 28, 3) := by decide +kernel
theorem dX3_init_73 : decode cX3_init 73 = .ok (.aload_n 0, 1) := by decide +kernel
theorem dX3_init_74 : decode cX3_init 74 = .ok (.bipush 7, 2) := by decide +kernel
theorem dX3_init_76 : decode cX3_init 76 = .ok (.newarray .int, 2) := by decide +kernel
theorem dX3_init_78 : decode cX3_init 78 = .ok (.putfield 31, 3) := by decide +kernel
theorem dX3_init_81 : decode cX3_init 81 = .ok (.aload_n 0, 1) := by decide +kernel
theorem dX3_init_82 : decode cX3_init 82 = .ok (.bipush 7, 2) := by decide +kernel
theorem dX3_init_84 : decode cX3_init 84 = .ok (.newarray .int, 2) := by decide +kernel
theorem dX3_init_86 : decode cX3_init 86 = .ok (.putfield 34, 3) := by decide +kernel
theorem dX3_init_89 : decode cX3_init 89 = .ok (.aload_n 0, 1) := by decide +kernel
theorem dX3_init_90 : decode cX3_init 90 = .ok (.bipush 7, 2) := by decide +kernel
theorem dX3_init_92 : decode cX3_init 92 = .ok (.newarray .int, 2) := by decide +kernel
theorem dX3_init_94 : decode cX3_init 94 = .ok (.putfield 37, 3) := by decide +kernel
theorem dX3_init_97 : decode cX3_init 97 = .ok (.return_, 1) := by decide +kernel
theorem dX3_become_0 : decode cX3_become 0 = .ok (.aload_n 1, 1) := by decide +kernel
theorem dX3_become_1 : decode cX3_become 1 = .ok (.getfield 9, 3) := by decide +kernel
theorem dX3_become_4 : decode cX3_become 4 = .ok (.iconst 0, 1) := by decide +kernel
theorem dX3_become_5 : decode cX3_become 5 = .ok (.aload_n 0, 1) := by decide +kernel
theorem dX3_become_6 : decode cX3_become 6 = .ok (.getfield 9, 3) := by decide +kernel
theorem dX3_become_9 : decode cX3_become 9 = .ok (.iconst 0, 1) := by decide +kernel
theorem dX3_become_10 : decode cX3_become 10 = .ok (.iconst 3, 1) := by decide +kernel
theorem dX3_become_11 : decode cX3_become 11 = .ok (.invokestatic 40, 3) := by decide +kernel
theorem dX3_become_14 : decode cX3_become 14 = .ok (.aload_n 1, 1) := by decide +kernel
theorem dX3_become_15 : decode cX3_become 15 = .ok (.getfield 15, 3) := by decide +kernel
theorem dX3_become_18 : decode cX3_become 18 = .ok (.iconst 0, 1) := by decide +kernel
theorem dX3_become_19 : decode cX3_become 19 = .ok (.aload_n 0, 1) := by decide +kernel
theorem dX3_become_20 : decode cX3_become 20 = .ok (.getfield 15, 3) := by decide +kernel
theorem dX3_become_23 : decode cX3_become 23 = .ok (.iconst 0, 1) := by decide +kernel
theorem dX3_become_24 : decode cX3_become 24 = .ok (.iconst 3, 1) := by decide +kernel
theorem dX3_become_25 : decode cX3_become 25 = .ok (.invokestatic 40, 3) := by decide +kernel
theorem dX3_become_28 : decode cX3_become 28 = .ok (.aload_n 0, 1) := by decide +kernel
theorem dX3_become_29 : decode cX3_become 29 = .ok (.aload_n 1, 1) := by decide +kernel
theorem dX3_become_30 : decode cX3_become 30 = .ok (.getfield 18, 3) := by decide +kernel
theorem dX3_become_33 : decode cX3_become 33 = .ok (.putfield 18, 3) := by decide +kernel
theorem dX3_become_36 : decode cX3_become 36 = .ok (.aload_n 0, 1) := by decide +kernel
theorem dX3_become_37 : decode cX3_become 37 = .ok (.aload_n 1, 1) := by decide +kernel
theorem dX3_become_38 : decode cX3_become 38 = .ok (.getfield 22, 3) := by decide +kernel
theorem dX3_become_41 : decode cX3_become 41 = .ok (.putfield 22, 3) := by decide +kernel
theorem dX3_become_44 : decode cX3_become 44 = .ok (.aload_n 0, 1) := by decide +kernel
theorem dX3_become_45 : decode cX3_become 45 = .ok (.aload_n 1, 1) := by decide +kernel
theorem dX3_become_46 : decode cX3_become 46 = .ok (.getfield 25, 3) := by decide +kernel
theorem dX3_become_49 : decode cX3_become 49 = .ok (.putfield 25, 3) := by decide +kernel
theorem dX3_become_52 : decode cX3_become 52 = .ok (.aload_n 0, 1) := by decide +kernel
theorem dX3_become_53 : decode cX3_become 53 = .ok (.aload_n 1, 1) := by decide +kernel
theorem dX3_become_54 : decode cX3_become 54 = .ok (.getfield 28, 3) := by decide +kernel
theorem dX3_become_57 : decode cX3_become 57 = .ok (.putfield 28, 3) := by decide +kernel
theorem dX3_become_60 : decode cX3_become 60 = .ok (.aload_n 1, 1) := by decide +kernel
theorem dX3_become_61 : decode cX3_become 61 = .ok (.getfield 31, 3) := by decide +kernel
theorem dX3_become_64 : decode cX3_become 64 = .ok (.iconst 0, 1) := by decide +kernel
theorem dX3_become_65 : decode cX3_become 65 = .ok (.aload_n 0, 1) := by decide +kernel
theorem dX3_become_66 : decode cX3_become 66 = .ok (.getfield 31, 3) := by decide +kernel
theorem dX3_become_69 : decode cX3_become 69 = .ok (.iconst 0, 1) := by decide +kernel
theorem dX3_become_70 : decode cX3_become 70 = .ok (.bipush 7, 2) := by decide +kernel
theorem dX3_become_72 : decode cX3_become 72 = .ok (.invokestatic 40, 3) := by decide +kernel
theorem dX3_become_75 : decode cX3_become 75 = .ok (.aload_n 1, 1) := by decide +kernel
theorem dX3_become_76 : decode cX3_become 76 = .ok (.getfield 34, 3) := by decide +kernel
theorem dX3_become_79 : decode cX3_become 79 = .ok (.iconst 0, 1) := by decide +kernel
theorem dX3_become_80 : decode cX3_become 80 = .ok (.aload_n 0, 1) := by decide +kernel
theorem dX3_become_81 : decode cX3_become 81 = .ok (.getfield 34, 3) := by decide +kernel
theorem dX3_become_84 : decode cX3_become 84 = .ok (.iconst 0, 1) := by decide +kernel
theorem dX3_become_85 : decode cX3_become 85 = .ok (.bipush 7, 2) := by decide +kernel
theorem dX3_become_87 : decode cX3_become 87 = .ok (.invokestatic 40, 3) := by decide +kernel
theorem dX3_become_90 : decode cX3_become 90 = .ok (.aload_n 1, 1) := by decide +kernel
theorem dX3_become_91 : decode cX3_become 91 = .ok (.getfield 37, 3) := by decide +kernel
theorem dX3_become_94 : decode cX3_become 94 = .ok (.iconst 0, 1) := by decide +kernel
theorem dX3_become_95 : decode cX3_become 95 = .ok (.aload_n 0, 1) := by decide +kernel
theorem dX3_become_96 : decode cX3_become 96 = .ok (.getfield 37, 3) := by decide +kernel
theorem dX3_become_99 : decode cX3_become 99 = .ok (.iconst 0, 1) := by decide +kernel
theorem dX3_become_100 : decode cX3_become 100 = .ok (.bipush 7, 2) := by decide +kernel
theorem dX3_become_102 : decode cX3_become 102 = .ok (.invokestatic 40, 3) := by decide +kernel
theorem dX3_become_105 : decode cX3_become 105 = .ok (.return_, 1) := by decide +kernel
theorem dX3_take_0 : decode cX3_take 0 = .ok (.aload_n 0, 1) := by decide +kernel
theorem dX3_take_1 : decode cX3_take 1 = .ok (.getfield 28, 3) := by decide +kernel
theorem dX3_take_4 : decode cX3_take 4 = .ok (.istore 4, 2) := by decide +kernel
theorem dX3_take_6 : decode cX3_take 6 = .ok (.aload_n 0, 1) := by decide +kernel
theorem dX3_take_7 : decode cX3_take 7 = .ok (.getfield 31, 3) := by decide +kernel
theorem dX3_take_10 : decode cX3_take 10 = .ok (.iload 4, 2) := by decide +kernel
theorem dX3_take_12 : decode cX3_take 12 = .ok (.iload_n 1, 1) := by decide +kernel
theorem dX3_take_13 : decode cX3_take 13 = .ok (.iastore, 1) := by decide +kernel
theorem dX3_take_14 : decode cX3_take 14 = .ok (.aload_n 0, 1) := by decide +kernel
theorem dX3_take_15 : decode cX3_take 15 = .ok (.getfield 34, 3) := by decide +kernel
theorem dX3_take_18 : decode cX3_take 18 = .ok (.iload 4, 2) := by decide +kernel
theorem dX3_take_20 : decode cX3_take 20 = .ok (.iload_n 2, 1) := by decide +kernel
theorem dX3_take_21 : decode cX3_take 21 = .ok (.iastore, 1) := by decide +kernel
theorem dX3_take_22 : decode cX3_take 22 = .ok (.aload_n 0, 1) := by decide +kernel
theorem dX3_take_23 : decode cX3_take 23 = .ok (.getfield 37, 3) := by decide +kernel
theorem dX3_take_26 : decode cX3_take 26 = .ok (.iload 4, 2) := by decide +kernel
theorem dX3_take_28 : decode cX3_take 28 = .ok (.iload_n 3, 1) := by decide +kernel
theorem dX3_take_29 : decode cX3_take 29 = .ok (.iastore, 1) := by decide +kernel
theorem dX3_take_30 : decode cX3_take 30 = .ok (.aload_n 0, 1) := by decide +kernel
theorem dX3_take_31 : decode cX3_take 31 = .ok (.dup, 1) := by decide +kernel
theorem dX3_take_32 : decode cX3_take 32 = .ok (.getfield 28, 3) := by decide +kernel
theorem dX3_take_35 : decode cX3_take 35 = .ok (.iconst 1, 1) := by decide +kernel
theorem dX3_take_36 : decode cX3_take 36 = .ok (.iadd, 1) := by decide +kernel
theorem dX3_take_37 : decode cX3_take 37 = .ok (.putfield 28, 3) := by decide +kernel
theorem dX3_take_40 : decode cX3_take 40 = .ok (.iload 4, 2) := by decide +kernel
theorem dX3_take_42 : decode cX3_take 42 = .ok (.ireturn, 1) := by decide +kernel
theorem dX3_remove_0 : decode cX3_remove 0 = .ok (.iload_n 1, 1) := by decide +kernel
theorem dX3_remove_1 : decode cX3_remove 1 = .ok (.istore_n 2, 1) := by decide +kernel
theorem dX3_remove_2 : decode cX3_remove 2 = .ok (.iload_n 2, 1) := by decide +kernel
theorem dX3_remove_3 : decode cX3_remove 3 = .ok (.aload_n 0, 1) := by decide +kernel
theorem dX3_remove_4 : decode cX3_remove 4 = .ok (.getfield 28, 3) := by decide +kernel
theorem dX3_remove_7 : decode cX3_remove 7 = .ok (.iconst 1, 1) := by decide +kernel
theorem dX3_remove_8 : decode cX3_remove 8 = .ok (.isub, 1) := by decide +kernel
theorem dX3_remove_9 : decode cX3_remove 9 = .ok (.if_icmp .ge 51, 3) := by decide +kernel
theorem dX3_remove_12 : decode cX3_remove 12 = .ok (.aload_n 0, 1) := by decide +kernel
theorem dX3_remove_13 : decode cX3_remove 13 = .ok (.getfield 31, 3) := by decide +kernel
theorem dX3_remove_16 : decode cX3_remove 16 = .ok (.iload_n 2, 1) := by decide +kernel
theorem dX3_remove_17 : decode cX3_remove 17 = .ok (.aload_n 0, 1) := by decide +kernel
theorem dX3_remove_18 : decode cX3_remove 18 = .ok (.getfield 31, 3) := by decide +kernel
theorem dX3_remove_21 : decode cX3_remove 21 = .ok (.iload_n 2, 1) := by decide +kernel
theorem dX3_remove_22 : decode cX3_remove 22 = .ok (.iconst 1, 1) := by decide +kernel
theorem dX3_remove_23 : decode cX3_remove 23 = .ok (.iadd, 1) := by decide +kernel
theorem dX3_remove_24 : decode cX3_remove 24 = .ok (.iaload, 1) := by decide +kernel
theorem dX3_remove_25 : decode cX3_remove 25 = .ok (.iastore, 1) := by decide +kernel
theorem dX3_remove_26 : decode cX3_remove 26 = .ok (.aload_n 0, 1) := by decide +kernel
theorem dX3_remove_27 : decode cX3_remove 27 = .ok (.getfield 34, 3) := by decide +kernel
theorem dX3_remove_30 : decode cX3_remove 30 = .ok (.iload_n 2, 1) := by decide +kernel
theorem dX3_remove_31 : decode cX3_remove 31 = .ok (.aload_n 0, 1) := by decide +kernel
theorem dX3_remove_32 : decode cX3_remove 32 = .ok (.getfield 34, 3) := by decide +kernel
theorem dX3_remove_35 : decode cX3_remove 35 = .ok (.iload_n 2, 1) := by decide +kernel
theorem dX3_remove_36 : decode cX3_remove 36 = .ok (.iconst 1, 1) := by decide +kernel
theorem dX3_remove_37 : decode cX3_remove 37 = .ok (.iadd, 1) := by decide +kernel
theorem dX3_remove_38 : decode cX3_remove 38 = .ok (.iaload, 1) := by decide +kernel
theorem dX3_remove_39 : decode cX3_remove 39 = .ok (.iastore, 1) := by decide +kernel
theorem dX3_remove_40 : decode cX3_remove 40 = .ok (.aload_n 0, 1) := by decide +kernel
theorem dX3_remove_41 : decode cX3_remove 41 = .ok (.getfield 37, 3) := by decide +kernel
theorem dX3_remove_44 : decode cX3_remove 44 = .ok (.iload_n 2, 1) := by decide +kernel
theorem dX3_remove_45 : decode cX3_remove 45 = .ok (.aload_n 0, 1) := by decide +kernel
theorem dX3_remove_46 : decode cX3_remove 46 = .ok (.getfield 37, 3) := by decide +kernel
theorem dX3_remove_49 : decode cX3_remove 49 = .ok (.iload_n 2, 1) := by decide +kernel
theorem dX3_remove_50 : decode cX3_remove 50 = .ok (.iconst 1, 1) := by decide +kernel
theorem dX3_remove_51 : decode cX3_remove 51 = .ok (.iadd, 1) := by decide +kernel
theorem dX3_remove_52 : decode cX3_remove 52 = .ok (.iaload, 1) := by decide +kernel
theorem dX3_remove_53 : decode cX3_remove 53 = .ok (.iastore, 1) := by decide +kernel
theorem dX3_remove_54 : decode cX3_remove 54 = .ok (.iinc 2 1, 3) := by decide +kernel
theorem dX3_remove_57 : decode cX3_remove 57 = .ok (.goto (-55), 3) := by decide +kernel
theorem dX3_remove_60 : decode cX3_remove 60 = .ok (.aload_n 0, 1) := by decide +kernel
theorem dX3_remove_61 : decode cX3_remove 61 = .ok (.dup, 1) := by decide +kernel
theorem dX3_remove_62 : decode cX3_remove 62 = .ok (.getfield 28, 3) := by decide +kernel
theorem dX3_remove_65 : decode cX3_remove 65 = .ok (.iconst 1, 1) := by decide +kernel
theorem dX3_remove_66 : decode cX3_remove 66 = .ok (.isub, 1) := by decide +kernel
theorem dX3_remove_67 : decode cX3_remove 67 = .ok (.putfield 28, 3) := by decide +kernel
theorem dX3_remove_70 : decode cX3_remove 70 = .ok (.return_, 1) := by decide +kernel
theorem dX3_tight_0 : decode cX3_tight 0 = .ok (.iconst 1, 1) := by decide +kernel
theorem dX3_tight_1 : decode cX3_tight 1 = .ok (.aload_n 0, 1) := by decide +kernel
theorem dX3_tight_2 : decode cX3_tight 2 = .ok (.getfield 34, 3) := by decide +kernel
theorem dX3_tight_5 : decode cX3_tight 5 = .ok (.iload_n 1, 1) := by decide +kernel
theorem dX3_tight_6 : decode cX3_tight 6 = .ok (.iaload, 1) := by decide +kernel
theorem dX3_tight_7 : decode cX3_tight 7 = .ok (.invokestatic 46, 3) := by decide +kernel
theorem dX3_tight_10 : decode cX3_tight 10 = .ok (.istore_n 2, 1) := by decide +kernel
theorem dX3_tight_11 : decode cX3_tight 11 = .ok (.aload_n 0, 1) := by decide +kernel
theorem dX3_tight_12 : decode cX3_tight 12 = .ok (.getfield 37, 3) := by decide +kernel
theorem dX3_tight_15 : decode cX3_tight 15 = .ok (.iload_n 1, 1) := by decide +kernel
theorem dX3_tight_16 : decode cX3_tight 16 = .ok (.iaload, 1) := by decide +kernel
theorem dX3_tight_17 : decode cX3_tight 17 = .ok (.aload_n 0, 1) := by decide +kernel
theorem dX3_tight_18 : decode cX3_tight 18 = .ok (.getfield 15, 3) := by decide +kernel
theorem dX3_tight_21 : decode cX3_tight 21 = .ok (.aload_n 0, 1) := by decide +kernel
theorem dX3_tight_22 : decode cX3_tight 22 = .ok (.getfield 31, 3) := by decide +kernel
theorem dX3_tight_25 : decode cX3_tight 25 = .ok (.iload_n 1, 1) := by decide +kernel
theorem dX3_tight_26 : decode cX3_tight 26 = .ok (.iaload, 1) := by decide +kernel
theorem dX3_tight_27 : decode cX3_tight 27 = .ok (.iaload, 1) := by decide +kernel
theorem dX3_tight_28 : decode cX3_tight 28 = .ok (.isub, 1) := by decide +kernel
theorem dX3_tight_29 : decode cX3_tight 29 = .ok (.iload_n 2, 1) := by decide +kernel
theorem dX3_tight_30 : decode cX3_tight 30 = .ok (.invokestatic 52, 3) := by decide +kernel
theorem dX3_tight_33 : decode cX3_tight 33 = .ok (.ireturn, 1) := by decide +kernel
theorem dX3_everyJob_0 : decode cX3_everyJob 0 = .ok (.iconst 1, 1) := by decide +kernel
theorem dX3_everyJob_1 : decode cX3_everyJob 1 = .ok (.aload_n 0, 1) := by decide +kernel
theorem dX3_everyJob_2 : decode cX3_everyJob 2 = .ok (.getfield 28, 3) := by decide +kernel
theorem dX3_everyJob_5 : decode cX3_everyJob 5 = .ok (.ishl, 1) := by decide +kernel
theorem dX3_everyJob_6 : decode cX3_everyJob 6 = .ok (.iconst 1, 1) := by decide +kernel
theorem dX3_everyJob_7 : decode cX3_everyJob 7 = .ok (.isub, 1) := by decide +kernel
theorem dX3_everyJob_8 : decode cX3_everyJob 8 = .ok (.ireturn, 1) := by decide +kernel
theorem dX3_membersOf_0 : decode cX3_membersOf 0 = .ok (.iconst 0, 1) := by decide +kernel
theorem dX3_membersOf_1 : decode cX3_membersOf 1 = .ok (.istore_n 2, 1) := by decide +kernel
theorem dX3_membersOf_2 : decode cX3_membersOf 2 = .ok (.iconst 0, 1) := by decide +kernel
theorem dX3_membersOf_3 : decode cX3_membersOf 3 = .ok (.istore_n 3, 1) := by decide +kernel
theorem dX3_membersOf_4 : decode cX3_membersOf 4 = .ok (.iload_n 3, 1) := by decide +kernel
theorem dX3_membersOf_5 : decode cX3_membersOf 5 = .ok (.aload_n 0, 1) := by decide +kernel
theorem dX3_membersOf_6 : decode cX3_membersOf 6 = .ok (.getfield 28, 3) := by decide +kernel
theorem dX3_membersOf_9 : decode cX3_membersOf 9 = .ok (.if_icmp .ge 25, 3) := by decide +kernel
theorem dX3_membersOf_12 : decode cX3_membersOf 12 = .ok (.aload_n 0, 1) := by decide +kernel
theorem dX3_membersOf_13 : decode cX3_membersOf 13 = .ok (.getfield 31, 3) := by decide +kernel
theorem dX3_membersOf_16 : decode cX3_membersOf 16 = .ok (.iload_n 3, 1) := by decide +kernel
theorem dX3_membersOf_17 : decode cX3_membersOf 17 = .ok (.iaload, 1) := by decide +kernel
theorem dX3_membersOf_18 : decode cX3_membersOf 18 = .ok (.iload_n 1, 1) := by decide +kernel
theorem dX3_membersOf_19 : decode cX3_membersOf 19 = .ok (.if_icmp .ne 9, 3) := by decide +kernel
theorem dX3_membersOf_22 : decode cX3_membersOf 22 = .ok (.iload_n 2, 1) := by decide +kernel
theorem dX3_membersOf_23 : decode cX3_membersOf 23 = .ok (.iconst 1, 1) := by decide +kernel
theorem dX3_membersOf_24 : decode cX3_membersOf 24 = .ok (.iload_n 3, 1) := by decide +kernel
theorem dX3_membersOf_25 : decode cX3_membersOf 25 = .ok (.ishl, 1) := by decide +kernel
theorem dX3_membersOf_26 : decode cX3_membersOf 26 = .ok (.ior, 1) := by decide +kernel
theorem dX3_membersOf_27 : decode cX3_membersOf 27 = .ok (.istore_n 2, 1) := by decide +kernel
theorem dX3_membersOf_28 : decode cX3_membersOf 28 = .ok (.iinc 3 1, 3) := by decide +kernel
theorem dX3_membersOf_31 : decode cX3_membersOf 31 = .ok (.goto (-27), 3) := by decide +kernel
theorem dX3_membersOf_34 : decode cX3_membersOf 34 = .ok (.iload_n 2, 1) := by decide +kernel
theorem dX3_membersOf_35 : decode cX3_membersOf 35 = .ok (.ireturn, 1) := by decide +kernel
theorem dX3_familiesUsed_0 : decode cX3_familiesUsed 0 = .ok (.iconst 0, 1) := by decide +kernel
theorem dX3_familiesUsed_1 : decode cX3_familiesUsed 1 = .ok (.istore_n 1, 1) := by decide +kernel
theorem dX3_familiesUsed_2 : decode cX3_familiesUsed 2 = .ok (.iconst 0, 1) := by decide +kernel
theorem dX3_familiesUsed_3 : decode cX3_familiesUsed 3 = .ok (.istore_n 2, 1) := by decide +kernel
theorem dX3_familiesUsed_4 : decode cX3_familiesUsed 4 = .ok (.iload_n 2, 1) := by decide +kernel
theorem dX3_familiesUsed_5 : decode cX3_familiesUsed 5 = .ok (.iconst 3, 1) := by decide +kernel
theorem dX3_familiesUsed_6 : decode cX3_familiesUsed 6 = .ok (.if_icmp .ge 20, 3) := by decide +kernel
theorem dX3_familiesUsed_9 : decode cX3_familiesUsed 9 = .ok (.aload_n 0, 1) := by decide +kernel
theorem dX3_familiesUsed_10 : decode cX3_familiesUsed 10 = .ok (.iload_n 2, 1) := by decide +kernel
theorem dX3_familiesUsed_11 : decode cX3_familiesUsed 11 = .ok (.invokevirtual 55, 3) := by decide +kernel
theorem dX3_familiesUsed_14 : decode cX3_familiesUsed 14 = .ok (.ifCond .eq 6, 3) := by decide +kernel
theorem dX3_familiesUsed_17 : decode cX3_familiesUsed 17 = .ok (.iinc 1 1, 3) := by decide +kernel
theorem dX3_familiesUsed_20 : decode cX3_familiesUsed 20 = .ok (.iinc 2 1, 3) := by decide +kernel
theorem dX3_familiesUsed_23 : decode cX3_familiesUsed 23 = .ok (.goto (-19), 3) := by decide +kernel
theorem dX3_familiesUsed_26 : decode cX3_familiesUsed 26 = .ok (.iload_n 1, 1) := by decide +kernel
theorem dX3_familiesUsed_27 : decode cX3_familiesUsed 27 = .ok (.ireturn, 1) := by decide +kernel
theorem dX3_allVolumes_0 : decode cX3_allVolumes 0 = .ok (.aload_n 0, 1) := by decide +kernel
theorem dX3_allVolumes_1 : decode cX3_allVolumes 1 = .ok (.aload_n 0, 1) := by decide +kernel
theorem dX3_allVolumes_2 : decode cX3_allVolumes 2 = .ok (.invokevirtual 59, 3) := by decide +kernel
theorem dX3_allVolumes_5 : decode cX3_allVolumes 5 = .ok (.invokevirtual 63, 3) := by decide +kernel
theorem dX3_allVolumes_8 : decode cX3_allVolumes 8 = .ok (.ireturn, 1) := by decide +kernel
theorem dX3_volumeOfSet_0 : decode cX3_volumeOfSet 0 = .ok (.iconst 0, 1) := by decide +kernel
theorem dX3_volumeOfSet_1 : decode cX3_volumeOfSet 1 = .ok (.istore_n 2, 1) := by decide +kernel
theorem dX3_volumeOfSet_2 : decode cX3_volumeOfSet 2 = .ok (.iconst 0, 1) := by decide +kernel
theorem dX3_volumeOfSet_3 : decode cX3_volumeOfSet 3 = .ok (.istore_n 3, 1) := by decide +kernel
theorem dX3_volumeOfSet_4 : decode cX3_volumeOfSet 4 = .ok (.iload_n 3, 1) := by decide +kernel
theorem dX3_volumeOfSet_5 : decode cX3_volumeOfSet 5 = .ok (.aload_n 0, 1) := by decide +kernel
theorem dX3_volumeOfSet_6 : decode cX3_volumeOfSet 6 = .ok (.getfield 28, 3) := by decide +kernel
theorem dX3_volumeOfSet_9 : decode cX3_volumeOfSet 9 = .ok (.if_icmp .ge 26, 3) := by decide +kernel
theorem dX3_volumeOfSet_12 : decode cX3_volumeOfSet 12 = .ok (.iload_n 1, 1) := by decide +kernel
theorem dX3_volumeOfSet_13 : decode cX3_volumeOfSet 13 = .ok (.iload_n 3, 1) := by decide +kernel
theorem dX3_volumeOfSet_14 : decode cX3_volumeOfSet 14 = .ok (.invokestatic 66, 3) := by decide +kernel
theorem dX3_volumeOfSet_17 : decode cX3_volumeOfSet 17 = .ok (.ifCond .eq 12, 3) := by decide +kernel
theorem dX3_volumeOfSet_20 : decode cX3_volumeOfSet 20 = .ok (.iload_n 2, 1) := by decide +kernel
theorem dX3_volumeOfSet_21 : decode cX3_volumeOfSet 21 = .ok (.aload_n 0, 1) := by decide +kernel
theorem dX3_volumeOfSet_22 : decode cX3_volumeOfSet 22 = .ok (.getfield 34, 3) := by decide +kernel
theorem dX3_volumeOfSet_25 : decode cX3_volumeOfSet 25 = .ok (.iload_n 3, 1) := by decide +kernel
theorem dX3_volumeOfSet_26 : decode cX3_volumeOfSet 26 = .ok (.iaload, 1) := by decide +kernel
theorem dX3_volumeOfSet_27 : decode cX3_volumeOfSet 27 = .ok (.iadd, 1) := by decide +kernel
theorem dX3_volumeOfSet_28 : decode cX3_volumeOfSet 28 = .ok (.istore_n 2, 1) := by decide +kernel
theorem dX3_volumeOfSet_29 : decode cX3_volumeOfSet 29 = .ok (.iinc 3 1, 3) := by decide +kernel
theorem dX3_volumeOfSet_32 : decode cX3_volumeOfSet 32 = .ok (.goto (-28), 3) := by decide +kernel
theorem dX3_volumeOfSet_35 : decode cX3_volumeOfSet 35 = .ok (.iload_n 2, 1) := by decide +kernel
theorem dX3_volumeOfSet_36 : decode cX3_volumeOfSet 36 = .ok (.ireturn, 1) := by decide +kernel
theorem dX3_fits_0 : decode cX3_fits 0 = .ok (.aload_n 0, 1) := by decide +kernel
theorem dX3_fits_1 : decode cX3_fits 1 = .ok (.getfield 31, 3) := by decide +kernel
theorem dX3_fits_4 : decode cX3_fits 4 = .ok (.iload_n 1, 1) := by decide +kernel
theorem dX3_fits_5 : decode cX3_fits 5 = .ok (.iaload, 1) := by decide +kernel
theorem dX3_fits_6 : decode cX3_fits 6 = .ok (.aload_n 0, 1) := by decide +kernel
theorem dX3_fits_7 : decode cX3_fits 7 = .ok (.iload_n 2, 1) := by decide +kernel
theorem dX3_fits_8 : decode cX3_fits 8 = .ok (.invokevirtual 70, 3) := by decide +kernel
theorem dX3_fits_11 : decode cX3_fits 11 = .ok (.if_icmp .ne 26, 3) := by decide +kernel
theorem dX3_fits_14 : decode cX3_fits 14 = .ok (.aload_n 0, 1) := by decide +kernel
theorem dX3_fits_15 : decode cX3_fits 15 = .ok (.iload_n 2, 1) := by decide +kernel
theorem dX3_fits_16 : decode cX3_fits 16 = .ok (.invokevirtual 63, 3) := by decide +kernel
theorem dX3_fits_19 : decode cX3_fits 19 = .ok (.aload_n 0, 1) := by decide +kernel
theorem dX3_fits_20 : decode cX3_fits 20 = .ok (.getfield 34, 3) := by decide +kernel
theorem dX3_fits_23 : decode cX3_fits 23 = .ok (.iload_n 1, 1) := by decide +kernel
theorem dX3_fits_24 : decode cX3_fits 24 = .ok (.iaload, 1) := by decide +kernel
theorem dX3_fits_25 : decode cX3_fits 25 = .ok (.iadd, 1) := by decide +kernel
theorem dX3_fits_26 : decode cX3_fits 26 = .ok (.aload_n 0, 1) := by decide +kernel
theorem dX3_fits_27 : decode cX3_fits 27 = .ok (.getfield 18, 3) := by decide +kernel
theorem dX3_fits_30 : decode cX3_fits 30 = .ok (.if_icmp .gt 7, 3) := by decide +kernel
theorem dX3_fits_33 : decode cX3_fits 33 = .ok (.iconst 1, 1) := by decide +kernel
theorem dX3_fits_34 : decode cX3_fits 34 = .ok (.goto 4, 3) := by decide +kernel
theorem dX3_fits_37 : decode cX3_fits 37 = .ok (.iconst 0, 1) := by decide +kernel
theorem dX3_fits_38 : decode cX3_fits 38 = .ok (.ireturn, 1) := by decide +kernel
theorem dX3_familyOfSet_0 : decode cX3_familyOfSet 0 = .ok (.iconst 0, 1) := by decide +kernel
theorem dX3_familyOfSet_1 : decode cX3_familyOfSet 1 = .ok (.istore_n 2, 1) := by decide +kernel
theorem dX3_familyOfSet_2 : decode cX3_familyOfSet 2 = .ok (.iload_n 2, 1) := by decide +kernel
theorem dX3_familyOfSet_3 : decode cX3_familyOfSet 3 = .ok (.aload_n 0, 1) := by decide +kernel
theorem dX3_familyOfSet_4 : decode cX3_familyOfSet 4 = .ok (.getfield 28, 3) := by decide +kernel
theorem dX3_familyOfSet_7 : decode cX3_familyOfSet 7 = .ok (.if_icmp .ge 24, 3) := by decide +kernel
theorem dX3_familyOfSet_10 : decode cX3_familyOfSet 10 = .ok (.iload_n 1, 1) := by decide +kernel
theorem dX3_familyOfSet_11 : decode cX3_familyOfSet 11 = .ok (.iload_n 2, 1) := by decide +kernel
theorem dX3_familyOfSet_12 : decode cX3_familyOfSet 12 = .ok (.invokestatic 66, 3) := by decide +kernel
theorem dX3_familyOfSet_15 : decode cX3_familyOfSet 15 = .ok (.ifCond .eq 10, 3) := by decide +kernel
theorem dX3_familyOfSet_18 : decode cX3_familyOfSet 18 = .ok (.aload_n 0, 1) := by decide +kernel
theorem dX3_familyOfSet_19 : decode cX3_familyOfSet 19 = .ok (.getfield 31, 3) := by decide +kernel
theorem dX3_familyOfSet_22 : decode cX3_familyOfSet 22 = .ok (.iload_n 2, 1) := by decide +kernel
theorem dX3_familyOfSet_23 : decode cX3_familyOfSet 23 = .ok (.iaload, 1) := by decide +kernel
theorem dX3_familyOfSet_24 : decode cX3_familyOfSet 24 = .ok (.ireturn, 1) := by decide +kernel
theorem dX3_familyOfSet_25 : decode cX3_familyOfSet 25 = .ok (.iinc 2 1, 3) := by decide +kernel
theorem dX3_familyOfSet_28 : decode cX3_familyOfSet 28 = .ok (.goto (-26), 3) := by decide +kernel
theorem dX3_familyOfSet_31 : decode cX3_familyOfSet 31 = .ok (.iconst 3, 1) := by decide +kernel
theorem dX3_familyOfSet_32 : decode cX3_familyOfSet 32 = .ok (.ireturn, 1) := by decide +kernel
theorem dX3_takes_0 : decode cX3_takes 0 = .ok (.aload_n 0, 1) := by decide +kernel
theorem dX3_takes_1 : decode cX3_takes 1 = .ok (.getfield 9, 3) := by decide +kernel
theorem dX3_takes_4 : decode cX3_takes 4 = .ok (.iload_n 2, 1) := by decide +kernel
theorem dX3_takes_5 : decode cX3_takes 5 = .ok (.iaload, 1) := by decide +kernel
theorem dX3_takes_6 : decode cX3_takes 6 = .ok (.aload_n 0, 1) := by decide +kernel
theorem dX3_takes_7 : decode cX3_takes 7 = .ok (.getfield 9, 3) := by decide +kernel
theorem dX3_takes_10 : decode cX3_takes 10 = .ok (.iload_n 1, 1) := by decide +kernel
theorem dX3_takes_11 : decode cX3_takes 11 = .ok (.iaload, 1) := by decide +kernel
theorem dX3_takes_12 : decode cX3_takes 12 = .ok (.isub, 1) := by decide +kernel
theorem dX3_takes_13 : decode cX3_takes 13 = .ok (.istore_n 3, 1) := by decide +kernel
theorem dX3_takes_14 : decode cX3_takes 14 = .ok (.iload_n 3, 1) := by decide +kernel
theorem dX3_takes_15 : decode cX3_takes 15 = .ok (.ifCond .le 12, 3) := by decide +kernel
theorem dX3_takes_18 : decode cX3_takes 18 = .ok (.aload_n 0, 1) := by decide +kernel
theorem dX3_takes_19 : decode cX3_takes 19 = .ok (.getfield 22, 3) := by decide +kernel
theorem dX3_takes_22 : decode cX3_takes 22 = .ok (.iload_n 3, 1) := by decide +kernel
theorem dX3_takes_23 : decode cX3_takes 23 = .ok (.imul, 1) := by decide +kernel
theorem dX3_takes_24 : decode cX3_takes 24 = .ok (.goto 10, 3) := by decide +kernel
theorem dX3_takes_27 : decode cX3_takes 27 = .ok (.aload_n 0, 1) := by decide +kernel
theorem dX3_takes_28 : decode cX3_takes 28 = .ok (.getfield 25, 3) := by decide +kernel
theorem dX3_takes_31 : decode cX3_takes 31 = .ok (.ineg, 1) := by decide +kernel
theorem dX3_takes_32 : decode cX3_takes 32 = .ok (.iload_n 3, 1) := by decide +kernel
theorem dX3_takes_33 : decode cX3_takes 33 = .ok (.imul, 1) := by decide +kernel
theorem dX3_takes_34 : decode cX3_takes 34 = .ok (.aload_n 0, 1) := by decide +kernel
theorem dX3_takes_35 : decode cX3_takes 35 = .ok (.getfield 15, 3) := by decide +kernel
theorem dX3_takes_38 : decode cX3_takes 38 = .ok (.iload_n 2, 1) := by decide +kernel
theorem dX3_takes_39 : decode cX3_takes 39 = .ok (.iaload, 1) := by decide +kernel
theorem dX3_takes_40 : decode cX3_takes 40 = .ok (.iadd, 1) := by decide +kernel
theorem dX3_takes_41 : decode cX3_takes 41 = .ok (.ireturn, 1) := by decide +kernel
theorem dX3_late_0 : decode cX3_late 0 = .ok (.iconst 0, 1) := by decide +kernel
theorem dX3_late_1 : decode cX3_late 1 = .ok (.istore 4, 2) := by decide +kernel
theorem dX3_late_3 : decode cX3_late 3 = .ok (.iconst 0, 1) := by decide +kernel
theorem dX3_late_4 : decode cX3_late 4 = .ok (.istore 5, 2) := by decide +kernel
theorem dX3_late_6 : decode cX3_late 6 = .ok (.iload 5, 2) := by decide +kernel
theorem dX3_late_8 : decode cX3_late 8 = .ok (.aload_n 0, 1) := by decide +kernel
theorem dX3_late_9 : decode cX3_late 9 = .ok (.getfield 28, 3) := by decide +kernel
theorem dX3_late_12 : decode cX3_late 12 = .ok (.if_icmp .ge 55, 3) := by decide +kernel
theorem dX3_late_15 : decode cX3_late 15 = .ok (.iload_n 3, 1) := by decide +kernel
theorem dX3_late_16 : decode cX3_late 16 = .ok (.aload_n 0, 1) := by decide +kernel
theorem dX3_late_17 : decode cX3_late 17 = .ok (.getfield 37, 3) := by decide +kernel
theorem dX3_late_20 : decode cX3_late 20 = .ok (.iload 5, 2) := by decide +kernel
theorem dX3_late_22 : decode cX3_late 22 = .ok (.iaload, 1) := by decide +kernel
theorem dX3_late_23 : decode cX3_late 23 = .ok (.isub, 1) := by decide +kernel
theorem dX3_late_24 : decode cX3_late 24 = .ok (.istore 6, 2) := by decide +kernel
theorem dX3_late_26 : decode cX3_late 26 = .ok (.iload 6, 2) := by decide +kernel
theorem dX3_late_28 : decode cX3_late 28 = .ok (.ifCond .le 33, 3) := by decide +kernel
theorem dX3_late_31 : decode cX3_late 31 = .ok (.iload_n 2, 1) := by decide +kernel
theorem dX3_late_32 : decode cX3_late 32 = .ok (.iload 5, 2) := by decide +kernel
theorem dX3_late_34 : decode cX3_late 34 = .ok (.invokestatic 66, 3) := by decide +kernel
theorem dX3_late_37 : decode cX3_late 37 = .ok (.ifCond .eq 24, 3) := by decide +kernel
theorem dX3_late_40 : decode cX3_late 40 = .ok (.iload_n 1, 1) := by decide +kernel
theorem dX3_late_41 : decode cX3_late 41 = .ok (.ifCond .ne 13, 3) := by decide +kernel
theorem dX3_late_44 : decode cX3_late 44 = .ok (.iload 4, 2) := by decide +kernel
theorem dX3_late_46 : decode cX3_late 46 = .ok (.iload 6, 2) := by decide +kernel
theorem dX3_late_48 : decode cX3_late 48 = .ok (.invokestatic 46, 3) := by decide +kernel
theorem dX3_late_51 : decode cX3_late 51 = .ok (.goto 8, 3) := by decide +kernel
theorem dX3_late_54 : decode cX3_late 54 = .ok (.iload 4, 2) := by decide +kernel
theorem dX3_late_56 : decode cX3_late 56 = .ok (.iload 6, 2) := by decide +kernel
theorem dX3_late_58 : decode cX3_late 58 = .ok (.iadd, 1) := by decide +kernel
theorem dX3_late_59 : decode cX3_late 59 = .ok (.istore 4, 2) := by decide +kernel
theorem dX3_late_61 : decode cX3_late 61 = .ok (.iinc 5 1, 3) := by decide +kernel
theorem dX3_late_64 : decode cX3_late 64 = .ok (.goto (-58), 3) := by decide +kernel
theorem dX3_late_67 : decode cX3_late 67 = .ok (.iload 4, 2) := by decide +kernel
theorem dX3_late_69 : decode cX3_late 69 = .ok (.ireturn, 1) := by decide +kernel
theorem dX4_init_0 : decode cX4_init 0 = .ok (.aload_n 0, 1) := by decide +kernel
theorem dX4_init_1 : decode cX4_init 1 = .ok (.invokespecial 1, 3) := by decide +kernel
theorem dX4_init_4 : decode cX4_init 4 = .ok (.aload_n 0, 1) := by decide +kernel
theorem dX4_init_5 : decode cX4_init 5 = .ok (.new 7, 3) := by decide +kernel
theorem dX4_init_8 : decode cX4_init 8 = .ok (.dup, 1) := by decide +kernel
theorem dX4_init_9 : decode cX4_init 9 = .ok (.invokespecial 9, 3) := by decide +kernel
theorem dX4_init_12 : decode cX4_init 12 = .ok (.putfield 10, 3) := by decide +kernel
theorem dX4_init_15 : decode cX4_init 15 = .ok (.aload_n 0, 1) := by decide +kernel
theorem dX4_init_16 : decode cX4_init 16 = .ok (.new 7, 3) := by decide +kernel
theorem dX4_init_19 : decode cX4_init 19 = .ok (.dup, 1) := by decide +kernel
theorem dX4_init_20 : decode cX4_init 20 = .ok (.invokespecial 9, 3) := by decide +kernel
theorem dX4_init_23 : decode cX4_init 23 = .ok (.putfield 16, 3) := by decide +kernel
theorem dX4_init_26 : decode cX4_init 26 = .ok (.aload_n 0, 1) := by decide +kernel
theorem dX4_init_27 : decode cX4_init 27 = .ok (.iconst 2, 1) := by decide +kernel
theorem dX4_init_28 : decode cX4_init 28 = .ok (.anewarray 7, 3) := by decide +kernel
theorem dX4_init_31 : decode cX4_init 31 = .ok (.putfield 19, 3) := by decide +kernel
theorem dX4_init_34 : decode cX4_init 34 = .ok (.aload_n 0, 1) := by decide +kernel
theorem dX4_init_35 : decode cX4_init 35 = .ok (.iconst 0, 1) := by decide +kernel
theorem dX4_init_36 : decode cX4_init 36 = .ok (.putfield 23, 3) := by decide +kernel
theorem dX4_init_39 : decode cX4_init 39 = .ok (.aload_n 0, 1) := by decide +kernel
theorem dX4_init_40 : decode cX4_init 40 = .ok (.new 27, 3) := by decide +kernel
theorem dX4_init_43 : decode cX4_init 43 = .ok (.dup, 1) := by decide +kernel
theorem dX4_init_44 : decode cX4_init 44 = .ok (.invokespecial 29, 3) := by decide +kernel
theorem dX4_init_47 : decode cX4_init 47 = .ok (.putfield 30, 3) := by decide +kernel
theorem dX4_init_50 : decode cX4_init 50 = .ok (.aload_n 0, 1) := by decide +kernel
theorem dX4_init_51 : decode cX4_init 51 = .ok (.new 34, 3) := by decide +kernel
theorem dX4_init_54 : decode cX4_init 54 = .ok (.dup, 1) := by decide +kernel
theorem dX4_init_55 : decode cX4_init 55 = .ok (.invokespecial 36, 3) := by decide +kernel
theorem dX4_init_58 : decode cX4_init 58 = .ok (.putfield 37, 3) := by decide +kernel
theorem dX4_init_61 : decode cX4_init 61 = .ok (.aload_n 0, 1) := by decide +kernel
theorem dX4_init_62 : decode cX4_init 62 = .ok (.new 34, 3) := by decide +kernel
theorem dX4_init_65 : decode cX4_init 65 = .ok (.dup, 1) := by decide +kernel
theorem dX4_init_66 : decode cX4_init 66 = .ok (.invokespecial 36, 3) := by decide +kernel
theorem dX4_init_69 : decode cX4_init 69 = .ok (.putfield 41, 3) := by decide +kernel
theorem dX4_init_72 : decode cX4_init 72 = .ok (.aload_n 0, 1) := by decide +kernel
theorem dX4_init_73 : decode cX4_init 73 = .ok (.new 34, 3) := by decide +kernel
theorem dX4_init_76 : decode cX4_init 76 = .ok (.dup, 1) := by decide +kernel
theorem dX4_init_77 : decode cX4_init 77 = .ok (.invokespecial 36, 3) := by decide +kernel
theorem dX4_init_80 : decode cX4_init 80 = .ok (.putfield 44, 3) := by decide +kernel
theorem dX4_init_83 : decode cX4_init 83 = .ok (.aload_n 0, 1) := by decide +kernel
theorem dX4_init_84 : decode cX4_init 84 = .ok (.iconst 4, 1) := by decide +kernel
theorem dX4_init_85 : decode cX4_init 85 = .ok (.anewarray 34, 3) := by decide +kernel
theorem dX4_init_88 : decode cX4_init 88 = .ok (.putfield 47, 3) := by decide +kernel
theorem dX4_init_91 : decode cX4_init 91 = .ok (.aload_n 0, 1) := by decide +kernel
theorem dX4_init_92 : decode cX4_init 92 = .ok (.iconst 4, 1) := by decide +kernel
theorem dX4_init_93 : decode cX4_init 93 = .ok (.newarray .int, 2) := by decide +kernel
theorem dX4_init_95 : decode cX4_init 95 = .ok (.putfield 51, 3) := by decide +kernel
theorem dX4_init_98 : decode cX4_init 98 = .ok (.aload_n 0, 1) := by decide +kernel
theorem dX4_init_99 : decode cX4_init 99 = .ok (.iconst 4, 1) := by decide +kernel
theorem dX4_init_100 : decode cX4_init 100 = .ok (.newarray .boolean, 2) := by decide +kernel
theorem dX4_init_102 : decode cX4_init 102 = .ok (.putfield 55, 3) := by decide +kernel
theorem dX4_init_105 : decode cX4_init 105 = .ok (.aload_n 0, 1) := by decide +kernel
theorem dX4_init_106 : decode cX4_init 106 = .ok (.new 59, 3) := by decide +kernel
theorem dX4_init_109 : decode cX4_init 109 = .ok (.dup, 1) := by decide +kernel
theorem dX4_init_110 : decode cX4_init 110 = .ok (.invokespecial 61, 3) := by decide +kernel
theorem dX4_init_113 : decode cX4_init 113 = .ok (.putfield 62, 3) := by decide +kernel
theorem dX4_init_116 : decode cX4_init 116 = .ok (.iconst 0, 1) := by decide +kernel
theorem dX4_init_117 : decode cX4_init 117 = .ok (.istore_n 1, 1) := by decide +kernel
theorem dX4_init_118 : decode cX4_init 118 = .ok (.iload_n 1, 1) := by decide +kernel
theorem dX4_init_119 : decode cX4_init 119 = .ok (.iconst 2, 1) := by decide +kernel
theorem dX4_init_120 : decode cX4_init 120 = .ok (.if_icmp .ge 22, 3) := by decide +kernel
theorem dX4_init_123 : decode cX4_init 123 = .ok (.aload_n 0, 1) := by decide +kernel
theorem dX4_init_124 : decode cX4_init 124 = .ok (.getfield 19, 3) := by decide +kernel
theorem dX4_init_127 : decode cX4_init 127 = .ok (.iload_n 1, 1) := by decide +kernel
theorem dX4_init_128 : decode cX4_init 128 = .ok (.new 7, 3) := by decide +kernel
theorem dX4_init_131 : decode cX4_init 131 = .ok (.dup, 1) := by decide +kernel
theorem dX4_init_132 : decode cX4_init 132 = .ok (.invokespecial 9, 3) := by decide +kernel
theorem dX4_init_135 : decode cX4_init 135 = .ok (.aastore, 1) := by decide +kernel
theorem dX4_init_136 : decode cX4_init 136 = .ok (.iinc 1 1, 3) := by decide +kernel
theorem dX4_init_139 : decode cX4_init 139 = .ok (.goto (-21), 3) := by decide +kernel
theorem dX4_init_142 : decode cX4_init 142 = .ok (.iconst 0, 1) := by decide +kernel
theorem dX4_init_143 : decode cX4_init 143 = .ok (.istore_n 1, 1) := by decide +kernel
theorem dX4_init_144 : decode cX4_init 144 = .ok (.iload_n 1, 1) := by decide +kernel
theorem dX4_init_145 : decode cX4_init 145 = .ok (.iconst 4, 1) := by decide +kernel
theorem dX4_init_146 : decode cX4_init 146 = .ok (.if_icmp .ge 22, 3) := by decide +kernel
theorem dX4_init_149 : decode cX4_init 149 = .ok (.aload_n 0, 1) := by decide +kernel
theorem dX4_init_150 : decode cX4_init 150 = .ok (.getfield 47, 3) := by decide +kernel
theorem dX4_init_153 : decode cX4_init 153 = .ok (.iload_n 1, 1) := by decide +kernel
theorem dX4_init_154 : decode cX4_init 154 = .ok (.new 34, 3) := by decide +kernel
theorem dX4_init_157 : decode cX4_init 157 = .ok (.dup, 1) := by decide +kernel
theorem dX4_init_158 : decode cX4_init 158 = .ok (.invokespecial 36, 3) := by decide +kernel
theorem dX4_init_161 : decode cX4_init 161 = .ok (.aastore, 1) := by decide +kernel
theorem dX4_init_162 : decode cX4_init 162 = .ok (.iinc 1 1, 3) := by decide +kernel
theorem dX4_init_165 : decode cX4_init 165 = .ok (.goto (-21), 3) := by decide +kernel
theorem dX4_init_168 : decode cX4_init 168 = .ok (.return_, 1) := by decide +kernel
theorem dX4_family_0 : decode cX4_family 0 = .ok (.iload_n 1, 1) := by decide +kernel
theorem dX4_family_1 : decode cX4_family 1 = .ok (.invokestatic 66, 3) := by decide +kernel
theorem dX4_family_4 : decode cX4_family 4 = .ok (.ifCond .ne 5, 3) := by decide +kernel
theorem dX4_family_7 : decode cX4_family 7 = .ok (.iconst (-1), 1) := by decide +kernel
theorem dX4_family_8 : decode cX4_family 8 = .ok (.ireturn, 1) := by decide +kernel
theorem dX4_family_9 : decode cX4_family 9 = .ok (.iload_n 2, 1) := by decide +kernel
theorem dX4_family_10 : decode cX4_family 10 = .ok (.ifCond .ne 41, 3) := by decide +kernel
theorem dX4_family_13 : decode cX4_family 13 = .ok (.iload_n 3, 1) := by decide +kernel
theorem dX4_family_14 : decode cX4_family 14 = .ok (.iconst 0, 1) := by decide +kernel
theorem dX4_family_15 : decode cX4_family 15 = .ok (.bipush 9, 2) := by decide +kernel
theorem dX4_family_17 : decode cX4_family 17 = .ok (.invokestatic 70, 3) := by decide +kernel
theorem dX4_family_20 : decode cX4_family 20 = .ok (.ifCond .eq 31, 3) := by decide +kernel
theorem dX4_family_23 : decode cX4_family 23 = .ok (.aload_n 0, 1) := by decide +kernel
theorem dX4_family_24 : decode cX4_family 24 = .ok (.getfield 10, 3) := by decide +kernel
theorem dX4_family_27 : decode cX4_family 27 = .ok (.getfield 74, 3) := by decide +kernel
theorem dX4_family_30 : decode cX4_family 30 = .ok (.iload_n 1, 1) := by decide +kernel
theorem dX4_family_31 : decode cX4_family 31 = .ok (.iaload, 1) := by decide +kernel
theorem dX4_family_32 : decode cX4_family 32 = .ok (.istore 4, 2) := by decide +kernel
theorem dX4_family_34 : decode cX4_family 34 = .ok (.aload_n 0, 1) := by decide +kernel
theorem dX4_family_35 : decode cX4_family 35 = .ok (.getfield 10, 3) := by decide +kernel
theorem dX4_family_38 : decode cX4_family 38 = .ok (.getfield 74, 3) := by decide +kernel
theorem dX4_family_41 : decode cX4_family 41 = .ok (.iload_n 1, 1) := by decide +kernel
theorem dX4_family_42 : decode cX4_family 42 = .ok (.iload_n 3, 1) := by decide +kernel
theorem dX4_family_43 : decode cX4_family 43 = .ok (.iastore, 1) := by decide +kernel
theorem dX4_family_44 : decode cX4_family 44 = .ok (.aload_n 0, 1) := by decide +kernel
theorem dX4_family_45 : decode cX4_family 45 = .ok (.invokevirtual 77, 3) := by decide +kernel
theorem dX4_family_48 : decode cX4_family 48 = .ok (.iload 4, 2) := by decide +kernel
theorem dX4_family_50 : decode cX4_family 50 = .ok (.ireturn, 1) := by decide +kernel
theorem dX4_family_51 : decode cX4_family 51 = .ok (.iload_n 2, 1) := by decide +kernel
theorem dX4_family_52 : decode cX4_family 52 = .ok (.iconst 1, 1) := by decide +kernel
theorem dX4_family_53 : decode cX4_family 53 = .ok (.if_icmp .ne 41, 3) := by decide +kernel
theorem dX4_family_56 : decode cX4_family 56 = .ok (.iload_n 3, 1) := by decide +kernel
theorem dX4_family_57 : decode cX4_family 57 = .ok (.iconst 1, 1) := by decide +kernel
theorem dX4_family_58 : decode cX4_family 58 = .ok (.bipush 20, 2) := by decide +kernel
theorem dX4_family_60 : decode cX4_family 60 = .ok (.invokestatic 70, 3) := by decide +kernel
theorem dX4_family_63 : decode cX4_family 63 = .ok (.ifCond .eq 31, 3) := by decide +kernel
theorem dX4_family_66 : decode cX4_family 66 = .ok (.aload_n 0, 1) := by decide +kernel
theorem dX4_family_67 : decode cX4_family 67 = .ok (.getfield 10, 3) := by decide +kernel
theorem dX4_family_70 : decode cX4_family 70 = .ok (.getfield 80, 3) := by decide +kernel
theorem dX4_family_73 : decode cX4_family 73 = .ok (.iload_n 1, 1) := by decide +kernel
theorem dX4_family_74 : decode cX4_family 74 = .ok (.iaload, 1) := by decide +kernel
theorem dX4_family_75 : decode cX4_family 75 = .ok (.istore 4, 2) := by decide +kernel
theorem dX4_family_77 : decode cX4_family 77 = .ok (.aload_n 0, 1) := by decide +kernel
theorem dX4_family_78 : decode cX4_family 78 = .ok (.getfield 10, 3) := by decide +kernel
theorem dX4_family_81 : decode cX4_family 81 = .ok (.getfield 80, 3) := by decide +kernel
theorem dX4_family_84 : decode cX4_family 84 = .ok (.iload_n 1, 1) := by decide +kernel
theorem dX4_family_85 : decode cX4_family 85 = .ok (.iload_n 3, 1) := by decide +kernel
theorem dX4_family_86 : decode cX4_family 86 = .ok (.iastore, 1) := by decide +kernel
theorem dX4_family_87 : decode cX4_family 87 = .ok (.aload_n 0, 1) := by decide +kernel
theorem dX4_family_88 : decode cX4_family 88 = .ok (.invokevirtual 77, 3) := by decide +kernel
theorem dX4_family_91 : decode cX4_family 91 = .ok (.iload 4, 2) := by decide +kernel
theorem dX4_family_93 : decode cX4_family 93 = .ok (.ireturn, 1) := by decide +kernel
theorem dX4_family_94 : decode cX4_family 94 = .ok (.bipush (-2), 2) := by decide +kernel
theorem dX4_family_96 : decode cX4_family 96 = .ok (.ireturn, 1) := by decide +kernel
theorem dX4_set_0 : decode cX4_set 0 = .ok (.bipush (-2), 2) := by decide +kernel
theorem dX4_set_2 : decode cX4_set 2 = .ok (.istore_n 3, 1) := by decide +kernel
theorem dX4_set_3 : decode cX4_set 3 = .ok (.iload_n 1, 1) := by decide +kernel
theorem dX4_set_4 : decode cX4_set 4 = .ok (.ifCond .ne 33, 3) := by decide +kernel
theorem dX4_set_7 : decode cX4_set 7 = .ok (.iload_n 2, 1) := by decide +kernel
theorem dX4_set_8 : decode cX4_set 8 = .ok (.bipush 9, 2) := by decide +kernel
theorem dX4_set_10 : decode cX4_set 10 = .ok (.bipush 20, 2) := by decide +kernel
theorem dX4_set_12 : decode cX4_set 12 = .ok (.invokestatic 70, 3) := by decide +kernel
theorem dX4_set_15 : decode cX4_set 15 = .ok (.ifCond .eq 22, 3) := by decide +kernel
theorem dX4_set_18 : decode cX4_set 18 = .ok (.aload_n 0, 1) := by decide +kernel
theorem dX4_set_19 : decode cX4_set 19 = .ok (.getfield 10, 3) := by decide +kernel
theorem dX4_set_22 : decode cX4_set 22 = .ok (.getfield 83, 3) := by decide +kernel
theorem dX4_set_25 : decode cX4_set 25 = .ok (.istore_n 3, 1) := by decide +kernel
theorem dX4_set_26 : decode cX4_set 26 = .ok (.aload_n 0, 1) := by decide +kernel
theorem dX4_set_27 : decode cX4_set 27 = .ok (.getfield 10, 3) := by decide +kernel
theorem dX4_set_30 : decode cX4_set 30 = .ok (.iload_n 2, 1) := by decide +kernel
theorem dX4_set_31 : decode cX4_set 31 = .ok (.putfield 83, 3) := by decide +kernel
theorem dX4_set_34 : decode cX4_set 34 = .ok (.goto 66, 3) := by decide +kernel
theorem dX4_set_37 : decode cX4_set 37 = .ok (.iload_n 1, 1) := by decide +kernel
theorem dX4_set_38 : decode cX4_set 38 = .ok (.iconst 1, 1) := by decide +kernel
theorem dX4_set_39 : decode cX4_set 39 = .ok (.if_icmp .ne 31, 3) := by decide +kernel
theorem dX4_set_42 : decode cX4_set 42 = .ok (.iload_n 2, 1) := by decide +kernel
theorem dX4_set_43 : decode cX4_set 43 = .ok (.iconst 0, 1) := by decide +kernel
theorem dX4_set_44 : decode cX4_set 44 = .ok (.iconst 3, 1) := by decide +kernel
theorem dX4_set_45 : decode cX4_set 45 = .ok (.invokestatic 70, 3) := by decide +kernel
theorem dX4_set_48 : decode cX4_set 48 = .ok (.ifCond .eq 22, 3) := by decide +kernel
theorem dX4_set_51 : decode cX4_set 51 = .ok (.aload_n 0, 1) := by decide +kernel
theorem dX4_set_52 : decode cX4_set 52 = .ok (.getfield 10, 3) := by decide +kernel
theorem dX4_set_55 : decode cX4_set 55 = .ok (.getfield 86, 3) := by decide +kernel
theorem dX4_set_58 : decode cX4_set 58 = .ok (.istore_n 3, 1) := by decide +kernel
theorem dX4_set_59 : decode cX4_set 59 = .ok (.aload_n 0, 1) := by decide +kernel
theorem dX4_set_60 : decode cX4_set 60 = .ok (.getfield 10, 3) := by decide +kernel
theorem dX4_set_63 : decode cX4_set 63 = .ok (.iload_n 2, 1) := by decide +kernel
theorem dX4_set_64 : decode cX4_set 64 = .ok (.putfield 86, 3) := by decide +kernel
theorem dX4_set_67 : decode cX4_set 67 = .ok (.goto 33, 3) := by decide +kernel
theorem dX4_set_70 : decode cX4_set 70 = .ok (.iload_n 1, 1) := by decide +kernel
theorem dX4_set_71 : decode cX4_set 71 = .ok (.iconst 2, 1) := by decide +kernel
theorem dX4_set_72 : decode cX4_set 72 = .ok (.if_icmp .ne 28, 3) := by decide +kernel
theorem dX4_set_75 : decode cX4_set 75 = .ok (.iload_n 2, 1) := by decide +kernel
theorem dX4_set_76 : decode cX4_set 76 = .ok (.iconst 0, 1) := by decide +kernel
theorem dX4_set_77 : decode cX4_set 77 = .ok (.iconst 3, 1) := by decide +kernel
theorem dX4_set_78 : decode cX4_set 78 = .ok (.invokestatic 70, 3) := by decide +kernel
theorem dX4_set_81 : decode cX4_set 81 = .ok (.ifCond .eq 19, 3) := by decide +kernel
theorem dX4_set_84 : decode cX4_set 84 = .ok (.aload_n 0, 1) := by decide +kernel
theorem dX4_set_85 : decode cX4_set 85 = .ok (.getfield 10, 3) := by decide +kernel
theorem dX4_set_88 : decode cX4_set 88 = .ok (.getfield 89, 3) := by decide +kernel
theorem dX4_set_91 : decode cX4_set 91 = .ok (.istore_n 3, 1) := by decide +kernel
theorem dX4_set_92 : decode cX4_set 92 = .ok (.aload_n 0, 1) := by decide +kernel
theorem dX4_set_93 : decode cX4_set 93 = .ok (.getfield 10, 3) := by decide +kernel
theorem dX4_set_96 : decode cX4_set 96 = .ok (.iload_n 2, 1) := by decide +kernel
theorem dX4_set_97 : decode cX4_set 97 = .ok (.putfield 89, 3) := by decide +kernel
theorem dX4_set_100 : decode cX4_set 100 = .ok (.iload_n 3, 1) := by decide +kernel
theorem dX4_set_101 : decode cX4_set 101 = .ok (.bipush (-2), 2) := by decide +kernel
theorem dX4_set_103 : decode cX4_set 103 = .ok (.if_icmp .eq 7, 3) := by decide +kernel
theorem dX4_set_106 : decode cX4_set 106 = .ok (.aload_n 0, 1) := by decide +kernel
theorem dX4_set_107 : decode cX4_set 107 = .ok (.invokevirtual 77, 3) := by decide +kernel
theorem dX4_set_110 : decode cX4_set 110 = .ok (.iload_n 3, 1) := by decide +kernel
theorem dX4_set_111 : decode cX4_set 111 = .ok (.ireturn, 1) := by decide +kernel
theorem dX4_job_0 : decode cX4_job 0 = .ok (.iload_n 1, 1) := by decide +kernel
theorem dX4_job_1 : decode cX4_job 1 = .ok (.invokestatic 66, 3) := by decide +kernel
theorem dX4_job_4 : decode cX4_job 4 = .ok (.ifCond .ne 5, 3) := by decide +kernel
theorem dX4_job_7 : decode cX4_job 7 = .ok (.iconst (-1), 1) := by decide +kernel
theorem dX4_job_8 : decode cX4_job 8 = .ok (.ireturn, 1) := by decide +kernel
theorem dX4_job_9 : decode cX4_job 9 = .ok (.iload_n 2, 1) := by decide +kernel
theorem dX4_job_10 : decode cX4_job 10 = .ok (.iconst 1, 1) := by decide +kernel
theorem dX4_job_11 : decode cX4_job 11 = .ok (.bipush 9, 2) := by decide +kernel
theorem dX4_job_13 : decode cX4_job 13 = .ok (.invokestatic 70, 3) := by decide +kernel
theorem dX4_job_16 : decode cX4_job 16 = .ok (.ifCond .eq 13, 3) := by decide +kernel
theorem dX4_job_19 : decode cX4_job 19 = .ok (.iload_n 3, 1) := by decide +kernel
theorem dX4_job_20 : decode cX4_job 20 = .ok (.iconst 0, 1) := by decide +kernel
theorem dX4_job_21 : decode cX4_job 21 = .ok (.bipush 99, 2) := by decide +kernel
theorem dX4_job_23 : decode cX4_job 23 = .ok (.invokestatic 70, 3) := by decide +kernel
theorem dX4_job_26 : decode cX4_job 26 = .ok (.ifCond .ne 6, 3) := by decide +kernel
theorem dX4_job_29 : decode cX4_job 29 = .ok (.bipush (-2), 2) := by decide +kernel
theorem dX4_job_31 : decode cX4_job 31 = .ok (.ireturn, 1) := by decide +kernel
theorem dX4_job_32 : decode cX4_job 32 = .ok (.aload_n 0, 1) := by decide +kernel
theorem dX4_job_33 : decode cX4_job 33 = .ok (.getfield 10, 3) := by decide +kernel
theorem dX4_job_36 : decode cX4_job 36 = .ok (.getfield 92, 3) := by decide +kernel
theorem dX4_job_39 : decode cX4_job 39 = .ok (.bipush 7, 2) := by decide +kernel
theorem dX4_job_41 : decode cX4_job 41 = .ok (.if_icmp .lt 6, 3) := by decide +kernel
theorem dX4_job_44 : decode cX4_job 44 = .ok (.bipush (-4), 2) := by decide +kernel
theorem dX4_job_46 : decode cX4_job 46 = .ok (.ireturn, 1) := by decide +kernel
theorem dX4_job_47 : decode cX4_job 47 = .ok (.aload_n 0, 1) := by decide +kernel
theorem dX4_job_48 : decode cX4_job 48 = .ok (.invokevirtual 77, 3) := by decide +kernel
theorem dX4_job_51 : decode cX4_job 51 = .ok (.aload_n 0, 1) := by decide +kernel
theorem dX4_job_52 : decode cX4_job 52 = .ok (.getfield 10, 3) := by decide +kernel
theorem dX4_job_55 : decode cX4_job 55 = .ok (.iload_n 1, 1) := by decide +kernel
theorem dX4_job_56 : decode cX4_job 56 = .ok (.iload_n 2, 1) := by decide +kernel
theorem dX4_job_57 : decode cX4_job 57 = .ok (.iload_n 3, 1) := by decide +kernel
theorem dX4_job_58 : decode cX4_job 58 = .ok (.invokevirtual 95, 3) := by decide +kernel
theorem dX4_job_61 : decode cX4_job 61 = .ok (.ireturn, 1) := by decide +kernel
theorem dX4_drop_0 : decode cX4_drop 0 = .ok (.aload_n 0, 1) := by decide +kernel
theorem dX4_drop_1 : decode cX4_drop 1 = .ok (.iload_n 1, 1) := by decide +kernel
theorem dX4_drop_2 : decode cX4_drop 2 = .ok (.invokevirtual 99, 3) := by decide +kernel
theorem dX4_drop_5 : decode cX4_drop 5 = .ok (.ifCond .ne 5, 3) := by decide +kernel
theorem dX4_drop_8 : decode cX4_drop 8 = .ok (.iconst (-1), 1) := by decide +kernel
theorem dX4_drop_9 : decode cX4_drop 9 = .ok (.ireturn, 1) := by decide +kernel
theorem dX4_drop_10 : decode cX4_drop 10 = .ok (.aload_n 0, 1) := by decide +kernel
theorem dX4_drop_11 : decode cX4_drop 11 = .ok (.invokevirtual 77, 3) := by decide +kernel
theorem dX4_drop_14 : decode cX4_drop 14 = .ok (.aload_n 0, 1) := by decide +kernel
theorem dX4_drop_15 : decode cX4_drop 15 = .ok (.getfield 10, 3) := by decide +kernel
theorem dX4_drop_18 : decode cX4_drop 18 = .ok (.iload_n 1, 1) := by decide +kernel
theorem dX4_drop_19 : decode cX4_drop 19 = .ok (.invokevirtual 102, 3) := by decide +kernel
theorem dX4_drop_22 : decode cX4_drop 22 = .ok (.aload_n 0, 1) := by decide +kernel
theorem dX4_drop_23 : decode cX4_drop 23 = .ok (.getfield 10, 3) := by decide +kernel
theorem dX4_drop_26 : decode cX4_drop 26 = .ok (.getfield 92, 3) := by decide +kernel
theorem dX4_drop_29 : decode cX4_drop 29 = .ok (.ireturn, 1) := by decide +kernel
theorem dX4_due_0 : decode cX4_due 0 = .ok (.aload_n 0, 1) := by decide +kernel
theorem dX4_due_1 : decode cX4_due 1 = .ok (.iload_n 1, 1) := by decide +kernel
theorem dX4_due_2 : decode cX4_due 2 = .ok (.invokevirtual 99, 3) := by decide +kernel
theorem dX4_due_5 : decode cX4_due 5 = .ok (.ifCond .ne 5, 3) := by decide +kernel
theorem dX4_due_8 : decode cX4_due 8 = .ok (.iconst (-1), 1) := by decide +kernel
theorem dX4_due_9 : decode cX4_due 9 = .ok (.ireturn, 1) := by decide +kernel
theorem dX4_due_10 : decode cX4_due 10 = .ok (.iload_n 2, 1) := by decide +kernel
theorem dX4_due_11 : decode cX4_due 11 = .ok (.iconst 0, 1) := by decide +kernel
theorem dX4_due_12 : decode cX4_due 12 = .ok (.bipush 99, 2) := by decide +kernel
theorem dX4_due_14 : decode cX4_due 14 = .ok (.invokestatic 70, 3) := by decide +kernel
theorem dX4_due_17 : decode cX4_due 17 = .ok (.ifCond .ne 6, 3) := by decide +kernel
theorem dX4_due_20 : decode cX4_due 20 = .ok (.bipush (-2), 2) := by decide +kernel
theorem dX4_due_22 : decode cX4_due 22 = .ok (.ireturn, 1) := by decide +kernel
theorem dX4_due_23 : decode cX4_due 23 = .ok (.aload_n 0, 1) := by decide +kernel
theorem dX4_due_24 : decode cX4_due 24 = .ok (.getfield 10, 3) := by decide +kernel
theorem dX4_due_27 : decode cX4_due 27 = .ok (.getfield 106, 3) := by decide +kernel
theorem dX4_due_30 : decode cX4_due 30 = .ok (.iload_n 1, 1) := by decide +kernel
theorem dX4_due_31 : decode cX4_due 31 = .ok (.iaload, 1) := by decide +kernel
theorem dX4_due_32 : decode cX4_due 32 = .ok (.istore_n 3, 1) := by decide +kernel
theorem dX4_due_33 : decode cX4_due 33 = .ok (.aload_n 0, 1) := by decide +kernel
theorem dX4_due_34 : decode cX4_due 34 = .ok (.getfield 10, 3) := by decide +kernel
theorem dX4_due_37 : decode cX4_due 37 = .ok (.getfield 106, 3) := by decide +kernel
theorem dX4_due_40 : decode cX4_due 40 = .ok (.iload_n 1, 1) := by decide +kernel
theorem dX4_due_41 : decode cX4_due 41 = .ok (.iload_n 2, 1) := by decide +kernel
theorem dX4_due_42 : decode cX4_due 42 = .ok (.iastore, 1) := by decide +kernel
theorem dX4_due_43 : decode cX4_due 43 = .ok (.aload_n 0, 1) := by decide +kernel
theorem dX4_due_44 : decode cX4_due 44 = .ok (.invokevirtual 77, 3) := by decide +kernel
theorem dX4_due_47 : decode cX4_due 47 = .ok (.iload_n 3, 1) := by decide +kernel
theorem dX4_due_48 : decode cX4_due 48 = .ok (.ireturn, 1) := by decide +kernel
theorem dX4_of_0 : decode cX4_of 0 = .ok (.aload_n 0, 1) := by decide +kernel
theorem dX4_of_1 : decode cX4_of 1 = .ok (.iload_n 1, 1) := by decide +kernel
theorem dX4_of_2 : decode cX4_of 2 = .ok (.invokevirtual 99, 3) := by decide +kernel
theorem dX4_of_5 : decode cX4_of 5 = .ok (.ifCond .ne 5, 3) := by decide +kernel
theorem dX4_of_8 : decode cX4_of 8 = .ok (.iconst (-1), 1) := by decide +kernel
theorem dX4_of_9 : decode cX4_of 9 = .ok (.ireturn, 1) := by decide +kernel
theorem dX4_of_10 : decode cX4_of 10 = .ok (.iload_n 2, 1) := by decide +kernel
theorem dX4_of_11 : decode cX4_of 11 = .ok (.tableswitch 71 0 3 #[29, 39, 49, 59], 29) := by decide +kernel
theorem dX4_of_40 : decode cX4_of 40 = .ok (.aload_n 0, 1) := by decide +kernel
theorem dX4_of_41 : decode cX4_of 41 = .ok (.getfield 10, 3) := by decide +kernel
theorem dX4_of_44 : decode cX4_of 44 = .ok (.getfield 109, 3) := by decide +kernel
theorem dX4_of_47 : decode cX4_of 47 = .ok (.iload_n 1, 1) := by decide +kernel
theorem dX4_of_48 : decode cX4_of 48 = .ok (.iaload, 1) := by decide +kernel
theorem dX4_of_49 : decode cX4_of 49 = .ok (.ireturn, 1) := by decide +kernel
theorem dX4_of_50 : decode cX4_of 50 = .ok (.aload_n 0, 1) := by decide +kernel
theorem dX4_of_51 : decode cX4_of 51 = .ok (.getfield 10, 3) := by decide +kernel
theorem dX4_of_54 : decode cX4_of 54 = .ok (.getfield 112, 3) := by decide +kernel
theorem dX4_of_57 : decode cX4_of 57 = .ok (.iload_n 1, 1) := by decide +kernel
theorem dX4_of_58 : decode cX4_of 58 = .ok (.iaload, 1) := by decide +kernel
theorem dX4_of_59 : decode cX4_of 59 = .ok (.ireturn, 1) := by decide +kernel
theorem dX4_of_60 : decode cX4_of 60 = .ok (.aload_n 0, 1) := by decide +kernel
theorem dX4_of_61 : decode cX4_of 61 = .ok (.getfield 10, 3) := by decide +kernel
theorem dX4_of_64 : decode cX4_of 64 = .ok (.getfield 106, 3) := by decide +kernel
theorem dX4_of_67 : decode cX4_of 67 = .ok (.iload_n 1, 1) := by decide +kernel
theorem dX4_of_68 : decode cX4_of 68 = .ok (.iaload, 1) := by decide +kernel
theorem dX4_of_69 : decode cX4_of 69 = .ok (.ireturn, 1) := by decide +kernel
theorem dX4_of_70 : decode cX4_of 70 = .ok (.aload_n 0, 1) := by decide +kernel
theorem dX4_of_71 : decode cX4_of 71 = .ok (.getfield 10, 3) := by decide +kernel
theorem dX4_of_74 : decode cX4_of 74 = .ok (.iload_n 1, 1) := by decide +kernel
theorem dX4_of_75 : decode cX4_of 75 = .ok (.invokevirtual 115, 3) := by decide +kernel
theorem dX4_of_78 : decode cX4_of 78 = .ok (.bipush 100, 2) := by decide +kernel
theorem dX4_of_80 : decode cX4_of 80 = .ok (.iadd, 1) := by decide +kernel
theorem dX4_of_81 : decode cX4_of 81 = .ok (.ireturn, 1) := by decide +kernel
theorem dX4_of_82 : decode cX4_of 82 = .ok (.bipush (-2), 2) := by decide +kernel
theorem dX4_of_84 : decode cX4_of 84 = .ok (.ireturn, 1) := by decide +kernel
theorem dX4_best_0 : decode cX4_best 0 = .ok (.iload_n 1, 1) := by decide +kernel
theorem dX4_best_1 : decode cX4_best 1 = .ok (.invokestatic 119, 3) := by decide +kernel
theorem dX4_best_4 : decode cX4_best 4 = .ok (.ifCond .ne 6, 3) := by decide +kernel
theorem dX4_best_7 : decode cX4_best 7 = .ok (.bipush (-2), 2) := by decide +kernel
theorem dX4_best_9 : decode cX4_best 9 = .ok (.ireturn, 1) := by decide +kernel
theorem dX4_best_10 : decode cX4_best 10 = .ok (.aload_n 0, 1) := by decide +kernel
theorem dX4_best_11 : decode cX4_best 11 = .ok (.iload_n 1, 1) := by decide +kernel
theorem dX4_best_12 : decode cX4_best 12 = .ok (.invokevirtual 122, 3) := by decide +kernel
theorem dX4_best_15 : decode cX4_best 15 = .ok (.aload_n 0, 1) := by decide +kernel
theorem dX4_best_16 : decode cX4_best 16 = .ok (.getfield 51, 3) := by decide +kernel
theorem dX4_best_19 : decode cX4_best 19 = .ok (.iload_n 1, 1) := by decide +kernel
theorem dX4_best_20 : decode cX4_best 20 = .ok (.iaload, 1) := by decide +kernel
theorem dX4_best_21 : decode cX4_best 21 = .ok (.ireturn, 1) := by decide +kernel
theorem dX4_plan_0 : decode cX4_plan 0 = .ok (.iload_n 1, 1) := by decide +kernel
theorem dX4_plan_1 : decode cX4_plan 1 = .ok (.invokestatic 119, 3) := by decide +kernel
theorem dX4_plan_4 : decode cX4_plan 4 = .ok (.ifCond .eq 8, 3) := by decide +kernel
theorem dX4_plan_7 : decode cX4_plan 7 = .ok (.iload_n 2, 1) := by decide +kernel
theorem dX4_plan_8 : decode cX4_plan 8 = .ok (.iconst (-1), 1) := by decide +kernel
theorem dX4_plan_9 : decode cX4_plan 9 = .ok (.if_icmp .ge 6, 3) := by decide +kernel
theorem dX4_plan_12 : decode cX4_plan 12 = .ok (.bipush (-2), 2) := by decide +kernel
theorem dX4_plan_14 : decode cX4_plan 14 = .ok (.ireturn, 1) := by decide +kernel
theorem dX4_plan_15 : decode cX4_plan 15 = .ok (.aload_n 0, 1) := by decide +kernel
theorem dX4_plan_16 : decode cX4_plan 16 = .ok (.iload_n 1, 1) := by decide +kernel
theorem dX4_plan_17 : decode cX4_plan 17 = .ok (.invokevirtual 122, 3) := by decide +kernel
theorem dX4_plan_20 : decode cX4_plan 20 = .ok (.aload_n 0, 1) := by decide +kernel
theorem dX4_plan_21 : decode cX4_plan 21 = .ok (.getfield 47, 3) := by decide +kernel
theorem dX4_plan_24 : decode cX4_plan 24 = .ok (.iload_n 1, 1) := by decide +kernel
theorem dX4_plan_25 : decode cX4_plan 25 = .ok (.aaload, 1) := by decide +kernel
theorem dX4_plan_26 : decode cX4_plan 26 = .ok (.iload_n 2, 1) := by decide +kernel
theorem dX4_plan_27 : decode cX4_plan 27 = .ok (.invokevirtual 125, 3) := by decide +kernel
theorem dX4_plan_30 : decode cX4_plan 30 = .ok (.ireturn, 1) := by decide +kernel
theorem dX4_end_0 : decode cX4_end 0 = .ok (.aload_n 0, 1) := by decide +kernel
theorem dX4_end_1 : decode cX4_end 1 = .ok (.iload_n 1, 1) := by decide +kernel
theorem dX4_end_2 : decode cX4_end 2 = .ok (.invokevirtual 99, 3) := by decide +kernel
theorem dX4_end_5 : decode cX4_end 5 = .ok (.ifCond .ne 5, 3) := by decide +kernel
theorem dX4_end_8 : decode cX4_end 8 = .ok (.iconst (-1), 1) := by decide +kernel
theorem dX4_end_9 : decode cX4_end 9 = .ok (.ireturn, 1) := by decide +kernel
theorem dX4_end_10 : decode cX4_end 10 = .ok (.iload_n 2, 1) := by decide +kernel
theorem dX4_end_11 : decode cX4_end 11 = .ok (.invokestatic 119, 3) := by decide +kernel
theorem dX4_end_14 : decode cX4_end 14 = .ok (.ifCond .ne 6, 3) := by decide +kernel
theorem dX4_end_17 : decode cX4_end 17 = .ok (.bipush (-2), 2) := by decide +kernel
theorem dX4_end_19 : decode cX4_end 19 = .ok (.ireturn, 1) := by decide +kernel
theorem dX4_end_20 : decode cX4_end 20 = .ok (.aload_n 0, 1) := by decide +kernel
theorem dX4_end_21 : decode cX4_end 21 = .ok (.iload_n 2, 1) := by decide +kernel
theorem dX4_end_22 : decode cX4_end 22 = .ok (.invokevirtual 122, 3) := by decide +kernel
theorem dX4_end_25 : decode cX4_end 25 = .ok (.aload_n 0, 1) := by decide +kernel
theorem dX4_end_26 : decode cX4_end 26 = .ok (.getfield 47, 3) := by decide +kernel
theorem dX4_end_29 : decode cX4_end 29 = .ok (.iload_n 2, 1) := by decide +kernel
theorem dX4_end_30 : decode cX4_end 30 = .ok (.aaload, 1) := by decide +kernel
theorem dX4_end_31 : decode cX4_end 31 = .ok (.iload_n 1, 1) := by decide +kernel
theorem dX4_end_32 : decode cX4_end 32 = .ok (.invokevirtual 128, 3) := by decide +kernel
theorem dX4_end_35 : decode cX4_end 35 = .ok (.ireturn, 1) := by decide +kernel
theorem dX4_slack_0 : decode cX4_slack 0 = .ok (.aload_n 0, 1) := by decide +kernel
theorem dX4_slack_1 : decode cX4_slack 1 = .ok (.iload_n 1, 1) := by decide +kernel
theorem dX4_slack_2 : decode cX4_slack 2 = .ok (.invokevirtual 99, 3) := by decide +kernel
theorem dX4_slack_5 : decode cX4_slack 5 = .ok (.ifCond .ne 5, 3) := by decide +kernel
theorem dX4_slack_8 : decode cX4_slack 8 = .ok (.iconst (-1), 1) := by decide +kernel
theorem dX4_slack_9 : decode cX4_slack 9 = .ok (.ireturn, 1) := by decide +kernel
theorem dX4_slack_10 : decode cX4_slack 10 = .ok (.iload_n 2, 1) := by decide +kernel
theorem dX4_slack_11 : decode cX4_slack 11 = .ok (.invokestatic 119, 3) := by decide +kernel
theorem dX4_slack_14 : decode cX4_slack 14 = .ok (.ifCond .ne 6, 3) := by decide +kernel
theorem dX4_slack_17 : decode cX4_slack 17 = .ok (.bipush (-2), 2) := by decide +kernel
theorem dX4_slack_19 : decode cX4_slack 19 = .ok (.ireturn, 1) := by decide +kernel
theorem dX4_slack_20 : decode cX4_slack 20 = .ok (.aload_n 0, 1) := by decide +kernel
theorem dX4_slack_21 : decode cX4_slack 21 = .ok (.iload_n 2, 1) := by decide +kernel
theorem dX4_slack_22 : decode cX4_slack 22 = .ok (.invokevirtual 122, 3) := by decide +kernel
theorem dX4_slack_25 : decode cX4_slack 25 = .ok (.aload_n 0, 1) := by decide +kernel
theorem dX4_slack_26 : decode cX4_slack 26 = .ok (.getfield 10, 3) := by decide +kernel
theorem dX4_slack_29 : decode cX4_slack 29 = .ok (.getfield 106, 3) := by decide +kernel
theorem dX4_slack_32 : decode cX4_slack 32 = .ok (.iload_n 1, 1) := by decide +kernel
theorem dX4_slack_33 : decode cX4_slack 33 = .ok (.iaload, 1) := by decide +kernel
theorem dX4_slack_34 : decode cX4_slack 34 = .ok (.aload_n 0, 1) := by decide +kernel
theorem dX4_slack_35 : decode cX4_slack 35 = .ok (.iload_n 1, 1) := by decide +kernel
theorem dX4_slack_36 : decode cX4_slack 36 = .ok (.iload_n 2, 1) := by decide +kernel
theorem dX4_slack_37 : decode cX4_slack 37 = .ok (.invokevirtual 131, 3) := by decide +kernel
theorem dX4_slack_40 : decode cX4_slack 40 = .ok (.isub, 1) := by decide +kernel
theorem dX4_slack_41 : decode cX4_slack 41 = .ok (.ireturn, 1) := by decide +kernel
theorem dX4_rule_0 : decode cX4_rule 0 = .ok (.iload_n 1, 1) := by decide +kernel
theorem dX4_rule_1 : decode cX4_rule 1 = .ok (.iconst (-1), 1) := by decide +kernel
theorem dX4_rule_2 : decode cX4_rule 2 = .ok (.if_icmp .ge 6, 3) := by decide +kernel
theorem dX4_rule_5 : decode cX4_rule 5 = .ok (.bipush (-2), 2) := by decide +kernel
theorem dX4_rule_7 : decode cX4_rule 7 = .ok (.ireturn, 1) := by decide +kernel
theorem dX4_rule_8 : decode cX4_rule 8 = .ok (.aload_n 0, 1) := by decide +kernel
theorem dX4_rule_9 : decode cX4_rule 9 = .ok (.invokevirtual 135, 3) := by decide +kernel
theorem dX4_rule_12 : decode cX4_rule 12 = .ok (.aload_n 0, 1) := by decide +kernel
theorem dX4_rule_13 : decode cX4_rule 13 = .ok (.getfield 44, 3) := by decide +kernel
theorem dX4_rule_16 : decode cX4_rule 16 = .ok (.iload_n 1, 1) := by decide +kernel
theorem dX4_rule_17 : decode cX4_rule 17 = .ok (.invokevirtual 125, 3) := by decide +kernel
theorem dX4_rule_20 : decode cX4_rule 20 = .ok (.ireturn, 1) := by decide +kernel
theorem dX4_ruled_0 : decode cX4_ruled 0 = .ok (.iload_n 1, 1) := by decide +kernel
theorem dX4_ruled_1 : decode cX4_ruled 1 = .ok (.invokestatic 119, 3) := by decide +kernel
theorem dX4_ruled_4 : decode cX4_ruled 4 = .ok (.ifCond .ne 6, 3) := by decide +kernel
theorem dX4_ruled_7 : decode cX4_ruled 7 = .ok (.bipush (-2), 2) := by decide +kernel
theorem dX4_ruled_9 : decode cX4_ruled 9 = .ok (.ireturn, 1) := by decide +kernel
theorem dX4_ruled_10 : decode cX4_ruled 10 = .ok (.aload_n 0, 1) := by decide +kernel
theorem dX4_ruled_11 : decode cX4_ruled 11 = .ok (.invokevirtual 135, 3) := by decide +kernel
theorem dX4_ruled_14 : decode cX4_ruled 14 = .ok (.aload_n 0, 1) := by decide +kernel
theorem dX4_ruled_15 : decode cX4_ruled 15 = .ok (.getfield 44, 3) := by decide +kernel
theorem dX4_ruled_18 : decode cX4_ruled 18 = .ok (.aload_n 0, 1) := by decide +kernel
theorem dX4_ruled_19 : decode cX4_ruled 19 = .ok (.getfield 10, 3) := by decide +kernel
theorem dX4_ruled_22 : decode cX4_ruled 22 = .ok (.iload_n 1, 1) := by decide +kernel
theorem dX4_ruled_23 : decode cX4_ruled 23 = .ok (.invokevirtual 138, 3) := by decide +kernel
theorem dX4_ruled_26 : decode cX4_ruled 26 = .ok (.ireturn, 1) := by decide +kernel
theorem dX4_say_0 : decode cX4_say 0 = .ok (.iload_n 1, 1) := by decide +kernel
theorem dX4_say_1 : decode cX4_say 1 = .ok (.bipush 33, 2) := by decide +kernel
theorem dX4_say_3 : decode cX4_say 3 = .ok (.bipush 126, 2) := by decide +kernel
theorem dX4_say_5 : decode cX4_say 5 = .ok (.invokestatic 70, 3) := by decide +kernel
theorem dX4_say_8 : decode cX4_say 8 = .ok (.ifCond .ne 6, 3) := by decide +kernel
theorem dX4_say_11 : decode cX4_say 11 = .ok (.bipush (-2), 2) := by decide +kernel
theorem dX4_say_13 : decode cX4_say 13 = .ok (.ireturn, 1) := by decide +kernel
theorem dX4_say_14 : decode cX4_say 14 = .ok (.aload_n 0, 1) := by decide +kernel
theorem dX4_say_15 : decode cX4_say 15 = .ok (.getfield 30, 3) := by decide +kernel
theorem dX4_say_18 : decode cX4_say 18 = .ok (.getfield 142, 3) := by decide +kernel
theorem dX4_say_21 : decode cX4_say 21 = .ok (.bipush 14, 2) := by decide +kernel
theorem dX4_say_23 : decode cX4_say 23 = .ok (.if_icmp .lt 6, 3) := by decide +kernel
theorem dX4_say_26 : decode cX4_say 26 = .ok (.bipush (-4), 2) := by decide +kernel
theorem dX4_say_28 : decode cX4_say 28 = .ok (.ireturn, 1) := by decide +kernel
theorem dX4_say_29 : decode cX4_say 29 = .ok (.aload_n 0, 1) := by decide +kernel
theorem dX4_say_30 : decode cX4_say 30 = .ok (.getfield 30, 3) := by decide +kernel
theorem dX4_say_33 : decode cX4_say 33 = .ok (.iload_n 1, 1) := by decide +kernel
theorem dX4_say_34 : decode cX4_say 34 = .ok (.invokevirtual 145, 3) := by decide +kernel
theorem dX4_say_37 : decode cX4_say 37 = .ok (.aload_n 0, 1) := by decide +kernel
theorem dX4_say_38 : decode cX4_say 38 = .ok (.getfield 30, 3) := by decide +kernel
theorem dX4_say_41 : decode cX4_say 41 = .ok (.getfield 142, 3) := by decide +kernel
theorem dX4_say_44 : decode cX4_say 44 = .ok (.ireturn, 1) := by decide +kernel
theorem dX4_wipe_0 : decode cX4_wipe 0 = .ok (.aload_n 0, 1) := by decide +kernel
theorem dX4_wipe_1 : decode cX4_wipe 1 = .ok (.getfield 30, 3) := by decide +kernel
theorem dX4_wipe_4 : decode cX4_wipe 4 = .ok (.getfield 142, 3) := by decide +kernel
theorem dX4_wipe_7 : decode cX4_wipe 7 = .ok (.istore_n 1, 1) := by decide +kernel
theorem dX4_wipe_8 : decode cX4_wipe 8 = .ok (.aload_n 0, 1) := by decide +kernel
theorem dX4_wipe_9 : decode cX4_wipe 9 = .ok (.getfield 30, 3) := by decide +kernel
theorem dX4_wipe_12 : decode cX4_wipe 12 = .ok (.iconst 0, 1) := by decide +kernel
theorem dX4_wipe_13 : decode cX4_wipe 13 = .ok (.putfield 142, 3) := by decide +kernel
theorem dX4_wipe_16 : decode cX4_wipe 16 = .ok (.iload_n 1, 1) := by decide +kernel
theorem dX4_wipe_17 : decode cX4_wipe 17 = .ok (.ireturn, 1) := by decide +kernel
theorem dX4_fault_0 : decode cX4_fault 0 = .ok (.aload_n 0, 1) := by decide +kernel
theorem dX4_fault_1 : decode cX4_fault 1 = .ok (.getfield 30, 3) := by decide +kernel
theorem dX4_fault_4 : decode cX4_fault 4 = .ok (.aload_n 0, 1) := by decide +kernel
theorem dX4_fault_5 : decode cX4_fault 5 = .ok (.getfield 10, 3) := by decide +kernel
theorem dX4_fault_8 : decode cX4_fault 8 = .ok (.aload_n 0, 1) := by decide +kernel
theorem dX4_fault_9 : decode cX4_fault 9 = .ok (.getfield 37, 3) := by decide +kernel
theorem dX4_fault_12 : decode cX4_fault 12 = .ok (.invokevirtual 148, 3) := by decide +kernel
theorem dX4_fault_15 : decode cX4_fault 15 = .ok (.ireturn, 1) := by decide +kernel
theorem dX4_row_0 : decode cX4_row 0 = .ok (.iload_n 1, 1) := by decide +kernel
theorem dX4_row_1 : decode cX4_row 1 = .ok (.iconst 0, 1) := by decide +kernel
theorem dX4_row_2 : decode cX4_row 2 = .ok (.iconst 4, 1) := by decide +kernel
theorem dX4_row_3 : decode cX4_row 3 = .ok (.invokestatic 70, 3) := by decide +kernel
theorem dX4_row_6 : decode cX4_row 6 = .ok (.ifCond .ne 6, 3) := by decide +kernel
theorem dX4_row_9 : decode cX4_row 9 = .ok (.bipush (-2), 2) := by decide +kernel
theorem dX4_row_11 : decode cX4_row 11 = .ok (.ireturn, 1) := by decide +kernel
theorem dX4_row_12 : decode cX4_row 12 = .ok (.aload_n 0, 1) := by decide +kernel
theorem dX4_row_13 : decode cX4_row 13 = .ok (.getfield 30, 3) := by decide +kernel
theorem dX4_row_16 : decode cX4_row 16 = .ok (.aload_n 0, 1) := by decide +kernel
theorem dX4_row_17 : decode cX4_row 17 = .ok (.getfield 10, 3) := by decide +kernel
theorem dX4_row_20 : decode cX4_row 20 = .ok (.aload_n 0, 1) := by decide +kernel
theorem dX4_row_21 : decode cX4_row 21 = .ok (.getfield 37, 3) := by decide +kernel
theorem dX4_row_24 : decode cX4_row 24 = .ok (.invokevirtual 148, 3) := by decide +kernel
theorem dX4_row_27 : decode cX4_row 27 = .ok (.bipush (-6), 2) := by decide +kernel
theorem dX4_row_29 : decode cX4_row 29 = .ok (.if_icmp .eq 6, 3) := by decide +kernel
theorem dX4_row_32 : decode cX4_row 32 = .ok (.bipush (-7), 2) := by decide +kernel
theorem dX4_row_34 : decode cX4_row 34 = .ok (.ireturn, 1) := by decide +kernel
theorem dX4_row_35 : decode cX4_row 35 = .ok (.iload_n 1, 1) := by decide +kernel
theorem dX4_row_36 : decode cX4_row 36 = .ok (.iconst 4, 1) := by decide +kernel
theorem dX4_row_37 : decode cX4_row 37 = .ok (.if_icmp .ne 13, 3) := by decide +kernel
theorem dX4_row_40 : decode cX4_row 40 = .ok (.aload_n 0, 1) := by decide +kernel
theorem dX4_row_41 : decode cX4_row 41 = .ok (.getfield 37, 3) := by decide +kernel
theorem dX4_row_44 : decode cX4_row 44 = .ok (.invokevirtual 152, 3) := by decide +kernel
theorem dX4_row_47 : decode cX4_row 47 = .ok (.goto 15, 3) := by decide +kernel
theorem dX4_row_50 : decode cX4_row 50 = .ok (.aload_n 0, 1) := by decide +kernel
theorem dX4_row_51 : decode cX4_row 51 = .ok (.getfield 37, 3) := by decide +kernel
theorem dX4_row_54 : decode cX4_row 54 = .ok (.aload_n 0, 1) := by decide +kernel
theorem dX4_row_55 : decode cX4_row 55 = .ok (.getfield 10, 3) := by decide +kernel
theorem dX4_row_58 : decode cX4_row 58 = .ok (.iload_n 1, 1) := by decide +kernel
theorem dX4_row_59 : decode cX4_row 59 = .ok (.invokevirtual 138, 3) := by decide +kernel
theorem dX4_row_62 : decode cX4_row 62 = .ok (.ireturn, 1) := by decide +kernel
theorem dX4_at_0 : decode cX4_at 0 = .ok (.aload_n 0, 1) := by decide +kernel
theorem dX4_at_1 : decode cX4_at 1 = .ok (.iload_n 1, 1) := by decide +kernel
theorem dX4_at_2 : decode cX4_at 2 = .ok (.invokevirtual 99, 3) := by decide +kernel
theorem dX4_at_5 : decode cX4_at 5 = .ok (.ifCond .ne 5, 3) := by decide +kernel
theorem dX4_at_8 : decode cX4_at 8 = .ok (.iconst (-1), 1) := by decide +kernel
theorem dX4_at_9 : decode cX4_at 9 = .ok (.ireturn, 1) := by decide +kernel
theorem dX4_at_10 : decode cX4_at 10 = .ok (.aload_n 0, 1) := by decide +kernel
theorem dX4_at_11 : decode cX4_at 11 = .ok (.getfield 30, 3) := by decide +kernel
theorem dX4_at_14 : decode cX4_at 14 = .ok (.aload_n 0, 1) := by decide +kernel
theorem dX4_at_15 : decode cX4_at 15 = .ok (.getfield 10, 3) := by decide +kernel
theorem dX4_at_18 : decode cX4_at 18 = .ok (.aload_n 0, 1) := by decide +kernel
theorem dX4_at_19 : decode cX4_at 19 = .ok (.getfield 37, 3) := by decide +kernel
theorem dX4_at_22 : decode cX4_at 22 = .ok (.invokevirtual 148, 3) := by decide +kernel
theorem dX4_at_25 : decode cX4_at 25 = .ok (.bipush (-6), 2) := by decide +kernel
theorem dX4_at_27 : decode cX4_at 27 = .ok (.if_icmp .eq 6, 3) := by decide +kernel
theorem dX4_at_30 : decode cX4_at 30 = .ok (.bipush (-7), 2) := by decide +kernel
theorem dX4_at_32 : decode cX4_at 32 = .ok (.ireturn, 1) := by decide +kernel
theorem dX4_at_33 : decode cX4_at 33 = .ok (.aload_n 0, 1) := by decide +kernel
theorem dX4_at_34 : decode cX4_at 34 = .ok (.getfield 37, 3) := by decide +kernel
theorem dX4_at_37 : decode cX4_at 37 = .ok (.iload_n 1, 1) := by decide +kernel
theorem dX4_at_38 : decode cX4_at 38 = .ok (.invokevirtual 128, 3) := by decide +kernel
theorem dX4_at_41 : decode cX4_at 41 = .ok (.ireturn, 1) := by decide +kernel
theorem dX4_put_0 : decode cX4_put 0 = .ok (.aload_n 0, 1) := by decide +kernel
theorem dX4_put_1 : decode cX4_put 1 = .ok (.iload_n 1, 1) := by decide +kernel
theorem dX4_put_2 : decode cX4_put 2 = .ok (.invokevirtual 99, 3) := by decide +kernel
theorem dX4_put_5 : decode cX4_put 5 = .ok (.ifCond .ne 5, 3) := by decide +kernel
theorem dX4_put_8 : decode cX4_put 8 = .ok (.iconst (-1), 1) := by decide +kernel
theorem dX4_put_9 : decode cX4_put 9 = .ok (.ireturn, 1) := by decide +kernel
theorem dX4_put_10 : decode cX4_put 10 = .ok (.iload_n 2, 1) := by decide +kernel
theorem dX4_put_11 : decode cX4_put 11 = .ok (.iconst 0, 1) := by decide +kernel
theorem dX4_put_12 : decode cX4_put 12 = .ok (.iconst 1, 1) := by decide +kernel
theorem dX4_put_13 : decode cX4_put 13 = .ok (.invokestatic 70, 3) := by decide +kernel
theorem dX4_put_16 : decode cX4_put 16 = .ok (.ifCond .ne 6, 3) := by decide +kernel
theorem dX4_put_19 : decode cX4_put 19 = .ok (.bipush (-2), 2) := by decide +kernel
theorem dX4_put_21 : decode cX4_put 21 = .ok (.ireturn, 1) := by decide +kernel
theorem dX4_put_22 : decode cX4_put 22 = .ok (.aload_n 0, 1) := by decide +kernel
theorem dX4_put_23 : decode cX4_put 23 = .ok (.getfield 30, 3) := by decide +kernel
theorem dX4_put_26 : decode cX4_put 26 = .ok (.aload_n 0, 1) := by decide +kernel
theorem dX4_put_27 : decode cX4_put 27 = .ok (.getfield 10, 3) := by decide +kernel
theorem dX4_put_30 : decode cX4_put 30 = .ok (.aload_n 0, 1) := by decide +kernel
theorem dX4_put_31 : decode cX4_put 31 = .ok (.getfield 37, 3) := by decide +kernel
theorem dX4_put_34 : decode cX4_put 34 = .ok (.invokevirtual 148, 3) := by decide +kernel
theorem dX4_put_37 : decode cX4_put 37 = .ok (.bipush (-6), 2) := by decide +kernel
theorem dX4_put_39 : decode cX4_put 39 = .ok (.if_icmp .eq 6, 3) := by decide +kernel
theorem dX4_put_42 : decode cX4_put 42 = .ok (.bipush (-7), 2) := by decide +kernel
theorem dX4_put_44 : decode cX4_put 44 = .ok (.ireturn, 1) := by decide +kernel
theorem dX4_put_45 : decode cX4_put 45 = .ok (.aload_n 0, 1) := by decide +kernel
theorem dX4_put_46 : decode cX4_put 46 = .ok (.getfield 37, 3) := by decide +kernel
theorem dX4_put_49 : decode cX4_put 49 = .ok (.invokevirtual 152, 3) := by decide +kernel
theorem dX4_put_52 : decode cX4_put 52 = .ok (.iload_n 1, 1) := by decide +kernel
theorem dX4_put_53 : decode cX4_put 53 = .ok (.invokestatic 156, 3) := by decide +kernel
theorem dX4_put_56 : decode cX4_put 56 = .ok (.ifCond .eq 6, 3) := by decide +kernel
theorem dX4_put_59 : decode cX4_put 59 = .ok (.bipush (-3), 2) := by decide +kernel
theorem dX4_put_61 : decode cX4_put 61 = .ok (.ireturn, 1) := by decide +kernel
theorem dX4_put_62 : decode cX4_put 62 = .ok (.aload_n 0, 1) := by decide +kernel
theorem dX4_put_63 : decode cX4_put 63 = .ok (.iload_n 1, 1) := by decide +kernel
theorem dX4_put_64 : decode cX4_put 64 = .ok (.iload_n 2, 1) := by decide +kernel
theorem dX4_put_65 : decode cX4_put 65 = .ok (.iconst 1, 1) := by decide +kernel
theorem dX4_put_66 : decode cX4_put 66 = .ok (.if_icmp .ne 7, 3) := by decide +kernel
theorem dX4_put_69 : decode cX4_put 69 = .ok (.iconst 1, 1) := by decide +kernel
theorem dX4_put_70 : decode cX4_put 70 = .ok (.goto 4, 3) := by decide +kernel
theorem dX4_put_73 : decode cX4_put 73 = .ok (.iconst 0, 1) := by decide +kernel
theorem dX4_put_74 : decode cX4_put 74 = .ok (.invokevirtual 160, 3) := by decide +kernel
theorem dX4_put_77 : decode cX4_put 77 = .ok (.ireturn, 1) := by decide +kernel
theorem dX4_image_0 : decode cX4_image 0 = .ok (.iload_n 1, 1) := by decide +kernel
theorem dX4_image_1 : decode cX4_image 1 = .ok (.iconst 0, 1) := by decide +kernel
theorem dX4_image_2 : decode cX4_image 2 = .ok (.iconst 1, 1) := by decide +kernel
theorem dX4_image_3 : decode cX4_image 3 = .ok (.invokestatic 70, 3) := by decide +kernel
theorem dX4_image_6 : decode cX4_image 6 = .ok (.ifCond .ne 6, 3) := by decide +kernel
theorem dX4_image_9 : decode cX4_image 9 = .ok (.bipush (-2), 2) := by decide +kernel
theorem dX4_image_11 : decode cX4_image 11 = .ok (.ireturn, 1) := by decide +kernel
theorem dX4_image_12 : decode cX4_image 12 = .ok (.aload_n 0, 1) := by decide +kernel
theorem dX4_image_13 : decode cX4_image 13 = .ok (.getfield 19, 3) := by decide +kernel
theorem dX4_image_16 : decode cX4_image 16 = .ok (.iload_n 1, 1) := by decide +kernel
theorem dX4_image_17 : decode cX4_image 17 = .ok (.aaload, 1) := by decide +kernel
theorem dX4_image_18 : decode cX4_image 18 = .ok (.aload_n 0, 1) := by decide +kernel
theorem dX4_image_19 : decode cX4_image 19 = .ok (.getfield 10, 3) := by decide +kernel
theorem dX4_image_22 : decode cX4_image 22 = .ok (.invokevirtual 164, 3) := by decide +kernel
theorem dX4_image_25 : decode cX4_image 25 = .ok (.aload_n 0, 1) := by decide +kernel
theorem dX4_image_26 : decode cX4_image 26 = .ok (.dup, 1) := by decide +kernel
theorem dX4_image_27 : decode cX4_image 27 = .ok (.getfield 23, 3) := by decide +kernel
theorem dX4_image_30 : decode cX4_image 30 = .ok (.iconst 1, 1) := by decide +kernel
theorem dX4_image_31 : decode cX4_image 31 = .ok (.iload_n 1, 1) := by decide +kernel
theorem dX4_image_32 : decode cX4_image 32 = .ok (.ishl, 1) := by decide +kernel
theorem dX4_image_33 : decode cX4_image 33 = .ok (.ior, 1) := by decide +kernel
theorem dX4_image_34 : decode cX4_image 34 = .ok (.putfield 23, 3) := by decide +kernel
theorem dX4_image_37 : decode cX4_image 37 = .ok (.iconst 1, 1) := by decide +kernel
theorem dX4_image_38 : decode cX4_image 38 = .ok (.ireturn, 1) := by decide +kernel
theorem dX4_restore_0 : decode cX4_restore 0 = .ok (.iload_n 1, 1) := by decide +kernel
theorem dX4_restore_1 : decode cX4_restore 1 = .ok (.iconst 0, 1) := by decide +kernel
theorem dX4_restore_2 : decode cX4_restore 2 = .ok (.iconst 1, 1) := by decide +kernel
theorem dX4_restore_3 : decode cX4_restore 3 = .ok (.invokestatic 70, 3) := by decide +kernel
theorem dX4_restore_6 : decode cX4_restore 6 = .ok (.ifCond .ne 6, 3) := by decide +kernel
theorem dX4_restore_9 : decode cX4_restore 9 = .ok (.bipush (-2), 2) := by decide +kernel
theorem dX4_restore_11 : decode cX4_restore 11 = .ok (.ireturn, 1) := by decide +kernel
theorem dX4_restore_12 : decode cX4_restore 12 = .ok (.aload_n 0, 1) := by decide +kernel
theorem dX4_restore_13 : decode cX4_restore 13 = .ok (.getfield 23, 3) := by decide +kernel
theorem dX4_restore_16 : decode cX4_restore 16 = .ok (.iload_n 1, 1) := by decide +kernel
theorem dX4_restore_17 : decode cX4_restore 17 = .ok (.invokestatic 156, 3) := by decide +kernel
theorem dX4_restore_20 : decode cX4_restore 20 = .ok (.ifCond .ne 6, 3) := by decide +kernel
theorem dX4_restore_23 : decode cX4_restore 23 = .ok (.bipush (-3), 2) := by decide +kernel
theorem dX4_restore_25 : decode cX4_restore 25 = .ok (.ireturn, 1) := by decide +kernel
theorem dX4_restore_26 : decode cX4_restore 26 = .ok (.aload_n 0, 1) := by decide +kernel
theorem dX4_restore_27 : decode cX4_restore 27 = .ok (.getfield 10, 3) := by decide +kernel
theorem dX4_restore_30 : decode cX4_restore 30 = .ok (.aload_n 0, 1) := by decide +kernel
theorem dX4_restore_31 : decode cX4_restore 31 = .ok (.getfield 19, 3) := by decide +kernel
theorem dX4_restore_34 : decode cX4_restore 34 = .ok (.iload_n 1, 1) := by decide +kernel
theorem dX4_restore_35 : decode cX4_restore 35 = .ok (.aaload, 1) := by decide +kernel
theorem dX4_restore_36 : decode cX4_restore 36 = .ok (.invokevirtual 164, 3) := by decide +kernel
theorem dX4_restore_39 : decode cX4_restore 39 = .ok (.aload_n 0, 1) := by decide +kernel
theorem dX4_restore_40 : decode cX4_restore 40 = .ok (.invokevirtual 77, 3) := by decide +kernel
theorem dX4_restore_43 : decode cX4_restore 43 = .ok (.iconst 1, 1) := by decide +kernel
theorem dX4_restore_44 : decode cX4_restore 44 = .ok (.ireturn, 1) := by decide +kernel
theorem dX4_count_0 : decode cX4_count 0 = .ok (.iload_n 1, 1) := by decide +kernel
theorem dX4_count_1 : decode cX4_count 1 = .ok (.tableswitch 108 0 7 #[47, 55, 63, 71, 79, 87, 95, 103], 47) := by decide +kernel
theorem dX4_count_48 : decode cX4_count 48 = .ok (.aload_n 0, 1) := by decide +kernel
theorem dX4_count_49 : decode cX4_count 49 = .ok (.getfield 10, 3) := by decide +kernel
theorem dX4_count_52 : decode cX4_count 52 = .ok (.getfield 92, 3) := by decide +kernel
theorem dX4_count_55 : decode cX4_count 55 = .ok (.ireturn, 1) := by decide +kernel
theorem dX4_count_56 : decode cX4_count 56 = .ok (.aload_n 0, 1) := by decide +kernel
theorem dX4_count_57 : decode cX4_count 57 = .ok (.getfield 10, 3) := by decide +kernel
theorem dX4_count_60 : decode cX4_count 60 = .ok (.invokevirtual 168, 3) := by decide +kernel
theorem dX4_count_63 : decode cX4_count 63 = .ok (.ireturn, 1) := by decide +kernel
theorem dX4_count_64 : decode cX4_count 64 = .ok (.aload_n 0, 1) := by decide +kernel
theorem dX4_count_65 : decode cX4_count 65 = .ok (.getfield 10, 3) := by decide +kernel
theorem dX4_count_68 : decode cX4_count 68 = .ok (.getfield 83, 3) := by decide +kernel
theorem dX4_count_71 : decode cX4_count 71 = .ok (.ireturn, 1) := by decide +kernel
theorem dX4_count_72 : decode cX4_count 72 = .ok (.aload_n 0, 1) := by decide +kernel
theorem dX4_count_73 : decode cX4_count 73 = .ok (.getfield 10, 3) := by decide +kernel
theorem dX4_count_76 : decode cX4_count 76 = .ok (.getfield 86, 3) := by decide +kernel
theorem dX4_count_79 : decode cX4_count 79 = .ok (.ireturn, 1) := by decide +kernel
theorem dX4_count_80 : decode cX4_count 80 = .ok (.aload_n 0, 1) := by decide +kernel
theorem dX4_count_81 : decode cX4_count 81 = .ok (.getfield 10, 3) := by decide +kernel
theorem dX4_count_84 : decode cX4_count 84 = .ok (.getfield 89, 3) := by decide +kernel
theorem dX4_count_87 : decode cX4_count 87 = .ok (.ireturn, 1) := by decide +kernel
theorem dX4_count_88 : decode cX4_count 88 = .ok (.aload_n 0, 1) := by decide +kernel
theorem dX4_count_89 : decode cX4_count 89 = .ok (.getfield 30, 3) := by decide +kernel
theorem dX4_count_92 : decode cX4_count 92 = .ok (.getfield 142, 3) := by decide +kernel
theorem dX4_count_95 : decode cX4_count 95 = .ok (.ireturn, 1) := by decide +kernel
theorem dX4_count_96 : decode cX4_count 96 = .ok (.aload_n 0, 1) := by decide +kernel
theorem dX4_count_97 : decode cX4_count 97 = .ok (.getfield 10, 3) := by decide +kernel
theorem dX4_count_100 : decode cX4_count 100 = .ok (.invokevirtual 171, 3) := by decide +kernel
theorem dX4_count_103 : decode cX4_count 103 = .ok (.ireturn, 1) := by decide +kernel
theorem dX4_count_104 : decode cX4_count 104 = .ok (.aload_n 0, 1) := by decide +kernel
theorem dX4_count_105 : decode cX4_count 105 = .ok (.getfield 23, 3) := by decide +kernel
theorem dX4_count_108 : decode cX4_count 108 = .ok (.ireturn, 1) := by decide +kernel
theorem dX4_count_109 : decode cX4_count 109 = .ok (.iload_n 1, 1) := by decide +kernel
theorem dX4_count_110 : decode cX4_count 110 = .ok (.bipush 10, 2) := by decide +kernel
theorem dX4_count_112 : decode cX4_count 112 = .ok (.bipush 12, 2) := by decide +kernel
theorem dX4_count_114 : decode cX4_count 114 = .ok (.invokestatic 70, 3) := by decide +kernel
theorem dX4_count_117 : decode cX4_count 117 = .ok (.ifCond .eq 16, 3) := by decide +kernel
theorem dX4_count_120 : decode cX4_count 120 = .ok (.aload_n 0, 1) := by decide +kernel
theorem dX4_count_121 : decode cX4_count 121 = .ok (.getfield 10, 3) := by decide +kernel
theorem dX4_count_124 : decode cX4_count 124 = .ok (.getfield 74, 3) := by decide +kernel
theorem dX4_count_127 : decode cX4_count 127 = .ok (.iload_n 1, 1) := by decide +kernel
theorem dX4_count_128 : decode cX4_count 128 = .ok (.bipush 10, 2) := by decide +kernel
theorem dX4_count_130 : decode cX4_count 130 = .ok (.isub, 1) := by decide +kernel
theorem dX4_count_131 : decode cX4_count 131 = .ok (.iaload, 1) := by decide +kernel
theorem dX4_count_132 : decode cX4_count 132 = .ok (.ireturn, 1) := by decide +kernel
theorem dX4_count_133 : decode cX4_count 133 = .ok (.iload_n 1, 1) := by decide +kernel
theorem dX4_count_134 : decode cX4_count 134 = .ok (.bipush 20, 2) := by decide +kernel
theorem dX4_count_136 : decode cX4_count 136 = .ok (.bipush 22, 2) := by decide +kernel
theorem dX4_count_138 : decode cX4_count 138 = .ok (.invokestatic 70, 3) := by decide +kernel
theorem dX4_count_141 : decode cX4_count 141 = .ok (.ifCond .eq 16, 3) := by decide +kernel
theorem dX4_count_144 : decode cX4_count 144 = .ok (.aload_n 0, 1) := by decide +kernel
theorem dX4_count_145 : decode cX4_count 145 = .ok (.getfield 10, 3) := by decide +kernel
theorem dX4_count_148 : decode cX4_count 148 = .ok (.getfield 80, 3) := by decide +kernel
theorem dX4_count_151 : decode cX4_count 151 = .ok (.iload_n 1, 1) := by decide +kernel
theorem dX4_count_152 : decode cX4_count 152 = .ok (.bipush 20, 2) := by decide +kernel
theorem dX4_count_154 : decode cX4_count 154 = .ok (.isub, 1) := by decide +kernel
theorem dX4_count_155 : decode cX4_count 155 = .ok (.iaload, 1) := by decide +kernel
theorem dX4_count_156 : decode cX4_count 156 = .ok (.ireturn, 1) := by decide +kernel
theorem dX4_count_157 : decode cX4_count 157 = .ok (.bipush (-2), 2) := by decide +kernel
theorem dX4_count_159 : decode cX4_count 159 = .ok (.ireturn, 1) := by decide +kernel
theorem dX4_isWithin_0 : decode cX4_isWithin 0 = .ok (.iload_n 0, 1) := by decide +kernel
theorem dX4_isWithin_1 : decode cX4_isWithin 1 = .ok (.iload_n 1, 1) := by decide +kernel
theorem dX4_isWithin_2 : decode cX4_isWithin 2 = .ok (.if_icmp .lt 12, 3) := by decide +kernel
theorem dX4_isWithin_5 : decode cX4_isWithin 5 = .ok (.iload_n 0, 1) := by decide +kernel
theorem dX4_isWithin_6 : decode cX4_isWithin 6 = .ok (.iload_n 2, 1) := by decide +kernel
theorem dX4_isWithin_7 : decode cX4_isWithin 7 = .ok (.if_icmp .gt 7, 3) := by decide +kernel
theorem dX4_isWithin_10 : decode cX4_isWithin 10 = .ok (.iconst 1, 1) := by decide +kernel
theorem dX4_isWithin_11 : decode cX4_isWithin 11 = .ok (.goto 4, 3) := by decide +kernel
theorem dX4_isWithin_14 : decode cX4_isWithin 14 = .ok (.iconst 0, 1) := by decide +kernel
theorem dX4_isWithin_15 : decode cX4_isWithin 15 = .ok (.ireturn, 1) := by decide +kernel
theorem dX4_isFamily_0 : decode cX4_isFamily 0 = .ok (.iload_n 0, 1) := by decide +kernel
theorem dX4_isFamily_1 : decode cX4_isFamily 1 = .ok (.iconst 0, 1) := by decide +kernel
theorem dX4_isFamily_2 : decode cX4_isFamily 2 = .ok (.iconst 2, 1) := by decide +kernel
theorem dX4_isFamily_3 : decode cX4_isFamily 3 = .ok (.invokestatic 70, 3) := by decide +kernel
theorem dX4_isFamily_6 : decode cX4_isFamily 6 = .ok (.ireturn, 1) := by decide +kernel
theorem dX4_isMeasure_0 : decode cX4_isMeasure 0 = .ok (.iload_n 0, 1) := by decide +kernel
theorem dX4_isMeasure_1 : decode cX4_isMeasure 1 = .ok (.iconst 0, 1) := by decide +kernel
theorem dX4_isMeasure_2 : decode cX4_isMeasure 2 = .ok (.iconst 3, 1) := by decide +kernel
theorem dX4_isMeasure_3 : decode cX4_isMeasure 3 = .ok (.invokestatic 70, 3) := by decide +kernel
theorem dX4_isMeasure_6 : decode cX4_isMeasure 6 = .ok (.ireturn, 1) := by decide +kernel
theorem dX4_isOfDues_0 : decode cX4_isOfDues 0 = .ok (.iload_n 0, 1) := by decide +kernel
theorem dX4_isOfDues_1 : decode cX4_isOfDues 1 = .ok (.ifCond .eq 8, 3) := by decide +kernel
theorem dX4_isOfDues_4 : decode cX4_isOfDues 4 = .ok (.iload_n 0, 1) := by decide +kernel
theorem dX4_isOfDues_5 : decode cX4_isOfDues 5 = .ok (.iconst 1, 1) := by decide +kernel
theorem dX4_isOfDues_6 : decode cX4_isOfDues 6 = .ok (.if_icmp .ne 7, 3) := by decide +kernel
theorem dX4_isOfDues_9 : decode cX4_isOfDues 9 = .ok (.iconst 1, 1) := by decide +kernel
theorem dX4_isOfDues_10 : decode cX4_isOfDues 10 = .ok (.goto 4, 3) := by decide +kernel
theorem dX4_isOfDues_13 : decode cX4_isOfDues 13 = .ok (.iconst 0, 1) := by decide +kernel
theorem dX4_isOfDues_14 : decode cX4_isOfDues 14 = .ok (.ireturn, 1) := by decide +kernel
theorem dX4_isJob_0 : decode cX4_isJob 0 = .ok (.iload_n 1, 1) := by decide +kernel
theorem dX4_isJob_1 : decode cX4_isJob 1 = .ok (.iconst 0, 1) := by decide +kernel
theorem dX4_isJob_2 : decode cX4_isJob 2 = .ok (.aload_n 0, 1) := by decide +kernel
theorem dX4_isJob_3 : decode cX4_isJob 3 = .ok (.getfield 10, 3) := by decide +kernel
theorem dX4_isJob_6 : decode cX4_isJob 6 = .ok (.getfield 92, 3) := by decide +kernel
theorem dX4_isJob_9 : decode cX4_isJob 9 = .ok (.iconst 1, 1) := by decide +kernel
theorem dX4_isJob_10 : decode cX4_isJob 10 = .ok (.isub, 1) := by decide +kernel
theorem dX4_isJob_11 : decode cX4_isJob 11 = .ok (.invokestatic 70, 3) := by decide +kernel
theorem dX4_isJob_14 : decode cX4_isJob 14 = .ok (.ireturn, 1) := by decide +kernel
theorem dX4_contains_0 : decode cX4_contains 0 = .ok (.iload_n 0, 1) := by decide +kernel
theorem dX4_contains_1 : decode cX4_contains 1 = .ok (.iload_n 1, 1) := by decide +kernel
theorem dX4_contains_2 : decode cX4_contains 2 = .ok (.ishr, 1) := by decide +kernel
theorem dX4_contains_3 : decode cX4_contains 3 = .ok (.iconst 1, 1) := by decide +kernel
theorem dX4_contains_4 : decode cX4_contains 4 = .ok (.iand, 1) := by decide +kernel
theorem dX4_contains_5 : decode cX4_contains 5 = .ok (.iconst 1, 1) := by decide +kernel
theorem dX4_contains_6 : decode cX4_contains 6 = .ok (.if_icmp .ne 7, 3) := by decide +kernel
theorem dX4_contains_9 : decode cX4_contains 9 = .ok (.iconst 1, 1) := by decide +kernel
theorem dX4_contains_10 : decode cX4_contains 10 = .ok (.goto 4, 3) := by decide +kernel
theorem dX4_contains_13 : decode cX4_contains 13 = .ok (.iconst 0, 1) := by decide +kernel
theorem dX4_contains_14 : decode cX4_contains 14 = .ok (.ireturn, 1) := by decide +kernel
theorem dX4_joined_0 : decode cX4_joined 0 = .ok (.iload_n 0, 1) := by decide +kernel
theorem dX4_joined_1 : decode cX4_joined 1 = .ok (.ifCond .ne 11, 3) := by decide +kernel
theorem dX4_joined_4 : decode cX4_joined 4 = .ok (.iload_n 1, 1) := by decide +kernel
theorem dX4_joined_5 : decode cX4_joined 5 = .ok (.iload_n 2, 1) := by decide +kernel
theorem dX4_joined_6 : decode cX4_joined 6 = .ok (.invokestatic 174, 3) := by decide +kernel
theorem dX4_joined_9 : decode cX4_joined 9 = .ok (.goto 6, 3) := by decide +kernel
theorem dX4_joined_12 : decode cX4_joined 12 = .ok (.iload_n 1, 1) := by decide +kernel
theorem dX4_joined_13 : decode cX4_joined 13 = .ok (.iload_n 2, 1) := by decide +kernel
theorem dX4_joined_14 : decode cX4_joined 14 = .ok (.iadd, 1) := by decide +kernel
theorem dX4_joined_15 : decode cX4_joined 15 = .ok (.ireturn, 1) := by decide +kernel
theorem dX4_forgetBest_0 : decode cX4_forgetBest 0 = .ok (.iconst 0, 1) := by decide +kernel
theorem dX4_forgetBest_1 : decode cX4_forgetBest 1 = .ok (.istore_n 1, 1) := by decide +kernel
theorem dX4_forgetBest_2 : decode cX4_forgetBest 2 = .ok (.iload_n 1, 1) := by decide +kernel
theorem dX4_forgetBest_3 : decode cX4_forgetBest 3 = .ok (.iconst 4, 1) := by decide +kernel
theorem dX4_forgetBest_4 : decode cX4_forgetBest 4 = .ok (.if_icmp .ge 16, 3) := by decide +kernel
theorem dX4_forgetBest_7 : decode cX4_forgetBest 7 = .ok (.aload_n 0, 1) := by decide +kernel
theorem dX4_forgetBest_8 : decode cX4_forgetBest 8 = .ok (.getfield 55, 3) := by decide +kernel
theorem dX4_forgetBest_11 : decode cX4_forgetBest 11 = .ok (.iload_n 1, 1) := by decide +kernel
theorem dX4_forgetBest_12 : decode cX4_forgetBest 12 = .ok (.iconst 0, 1) := by decide +kernel
theorem dX4_forgetBest_13 : decode cX4_forgetBest 13 = .ok (.bastore, 1) := by decide +kernel
theorem dX4_forgetBest_14 : decode cX4_forgetBest 14 = .ok (.iinc 1 1, 3) := by decide +kernel
theorem dX4_forgetBest_17 : decode cX4_forgetBest 17 = .ok (.goto (-15), 3) := by decide +kernel
theorem dX4_forgetBest_20 : decode cX4_forgetBest 20 = .ok (.return_, 1) := by decide +kernel
theorem dX4_findBest_0 : decode cX4_findBest 0 = .ok (.aload_n 0, 1) := by decide +kernel
theorem dX4_findBest_1 : decode cX4_findBest 1 = .ok (.getfield 55, 3) := by decide +kernel
theorem dX4_findBest_4 : decode cX4_findBest 4 = .ok (.iload_n 1, 1) := by decide +kernel
theorem dX4_findBest_5 : decode cX4_findBest 5 = .ok (.baload, 1) := by decide +kernel
theorem dX4_findBest_6 : decode cX4_findBest 6 = .ok (.ifCond .eq 4, 3) := by decide +kernel
theorem dX4_findBest_9 : decode cX4_findBest 9 = .ok (.return_, 1) := by decide +kernel
theorem dX4_findBest_10 : decode cX4_findBest 10 = .ok (.aload_n 0, 1) := by decide +kernel
theorem dX4_findBest_11 : decode cX4_findBest 11 = .ok (.getfield 51, 3) := by decide +kernel
theorem dX4_findBest_14 : decode cX4_findBest 14 = .ok (.iload_n 1, 1) := by decide +kernel
theorem dX4_findBest_15 : decode cX4_findBest 15 = .ok (.aload_n 0, 1) := by decide +kernel
theorem dX4_findBest_16 : decode cX4_findBest 16 = .ok (.getfield 62, 3) := by decide +kernel
theorem dX4_findBest_19 : decode cX4_findBest 19 = .ok (.aload_n 0, 1) := by decide +kernel
theorem dX4_findBest_20 : decode cX4_findBest 20 = .ok (.getfield 10, 3) := by decide +kernel
theorem dX4_findBest_23 : decode cX4_findBest 23 = .ok (.iload_n 1, 1) := by decide +kernel
theorem dX4_findBest_24 : decode cX4_findBest 24 = .ok (.invokevirtual 179, 3) := by decide +kernel
theorem dX4_findBest_27 : decode cX4_findBest 27 = .ok (.iastore, 1) := by decide +kernel
theorem dX4_findBest_28 : decode cX4_findBest 28 = .ok (.aload_n 0, 1) := by decide +kernel
theorem dX4_findBest_29 : decode cX4_findBest 29 = .ok (.getfield 62, 3) := by decide +kernel
theorem dX4_findBest_32 : decode cX4_findBest 32 = .ok (.aload_n 0, 1) := by decide +kernel
theorem dX4_findBest_33 : decode cX4_findBest 33 = .ok (.getfield 51, 3) := by decide +kernel
theorem dX4_findBest_36 : decode cX4_findBest 36 = .ok (.iload_n 1, 1) := by decide +kernel
theorem dX4_findBest_37 : decode cX4_findBest 37 = .ok (.iaload, 1) := by decide +kernel
theorem dX4_findBest_38 : decode cX4_findBest 38 = .ok (.aload_n 0, 1) := by decide +kernel
theorem dX4_findBest_39 : decode cX4_findBest 39 = .ok (.getfield 47, 3) := by decide +kernel
theorem dX4_findBest_42 : decode cX4_findBest 42 = .ok (.iload_n 1, 1) := by decide +kernel
theorem dX4_findBest_43 : decode cX4_findBest 43 = .ok (.aaload, 1) := by decide +kernel
theorem dX4_findBest_44 : decode cX4_findBest 44 = .ok (.invokevirtual 182, 3) := by decide +kernel
theorem dX4_findBest_47 : decode cX4_findBest 47 = .ok (.aload_n 0, 1) := by decide +kernel
theorem dX4_findBest_48 : decode cX4_findBest 48 = .ok (.getfield 55, 3) := by decide +kernel
theorem dX4_findBest_51 : decode cX4_findBest 51 = .ok (.iload_n 1, 1) := by decide +kernel
theorem dX4_findBest_52 : decode cX4_findBest 52 = .ok (.iconst 1, 1) := by decide +kernel
theorem dX4_findBest_53 : decode cX4_findBest 53 = .ok (.bastore, 1) := by decide +kernel
theorem dX4_findBest_54 : decode cX4_findBest 54 = .ok (.return_, 1) := by decide +kernel
theorem dX4_earliestDue_0 : decode cX4_earliestDue 0 = .ok (.iload_n 2, 1) := by decide +kernel
theorem dX4_earliestDue_1 : decode cX4_earliestDue 1 = .ok (.invokestatic 186, 3) := by decide +kernel
theorem dX4_earliestDue_4 : decode cX4_earliestDue 4 = .ok (.ifCond .ne 5, 3) := by decide +kernel
theorem dX4_earliestDue_7 : decode cX4_earliestDue 7 = .ok (.iconst 0, 1) := by decide +kernel
theorem dX4_earliestDue_8 : decode cX4_earliestDue 8 = .ok (.ireturn, 1) := by decide +kernel
theorem dX4_earliestDue_9 : decode cX4_earliestDue 9 = .ok (.iconst 0, 1) := by decide +kernel
theorem dX4_earliestDue_10 : decode cX4_earliestDue 10 = .ok (.istore_n 3, 1) := by decide +kernel
theorem dX4_earliestDue_11 : decode cX4_earliestDue 11 = .ok (.aload_n 0, 1) := by decide +kernel
theorem dX4_earliestDue_12 : decode cX4_earliestDue 12 = .ok (.getfield 10, 3) := by decide +kernel
theorem dX4_earliestDue_15 : decode cX4_earliestDue 15 = .ok (.getfield 106, 3) := by decide +kernel
theorem dX4_earliestDue_18 : decode cX4_earliestDue 18 = .ok (.iload_n 1, 1) := by decide +kernel
theorem dX4_earliestDue_19 : decode cX4_earliestDue 19 = .ok (.iaload, 1) := by decide +kernel
theorem dX4_earliestDue_20 : decode cX4_earliestDue 20 = .ok (.istore 4, 2) := by decide +kernel
theorem dX4_earliestDue_22 : decode cX4_earliestDue 22 = .ok (.aload_n 0, 1) := by decide +kernel
theorem dX4_earliestDue_23 : decode cX4_earliestDue 23 = .ok (.getfield 16, 3) := by decide +kernel
theorem dX4_earliestDue_26 : decode cX4_earliestDue 26 = .ok (.aload_n 0, 1) := by decide +kernel
theorem dX4_earliestDue_27 : decode cX4_earliestDue 27 = .ok (.getfield 10, 3) := by decide +kernel
theorem dX4_earliestDue_30 : decode cX4_earliestDue 30 = .ok (.invokevirtual 164, 3) := by decide +kernel
theorem dX4_earliestDue_33 : decode cX4_earliestDue 33 = .ok (.iconst 0, 1) := by decide +kernel
theorem dX4_earliestDue_34 : decode cX4_earliestDue 34 = .ok (.istore 5, 2) := by decide +kernel
theorem dX4_earliestDue_36 : decode cX4_earliestDue 36 = .ok (.iload 5, 2) := by decide +kernel
theorem dX4_earliestDue_38 : decode cX4_earliestDue 38 = .ok (.bipush 99, 2) := by decide +kernel
theorem dX4_earliestDue_40 : decode cX4_earliestDue 40 = .ok (.if_icmp .gt 73, 3) := by decide +kernel
theorem dX4_earliestDue_43 : decode cX4_earliestDue 43 = .ok (.iload_n 3, 1) := by decide +kernel
theorem dX4_earliestDue_44 : decode cX4_earliestDue 44 = .ok (.iload 4, 2) := by decide +kernel
theorem dX4_earliestDue_46 : decode cX4_earliestDue 46 = .ok (.if_icmp .ge 67, 3) := by decide +kernel
theorem dX4_earliestDue_49 : decode cX4_earliestDue 49 = .ok (.iload_n 3, 1) := by decide +kernel
theorem dX4_earliestDue_50 : decode cX4_earliestDue 50 = .ok (.iload 4, 2) := by decide +kernel
theorem dX4_earliestDue_52 : decode cX4_earliestDue 52 = .ok (.iadd, 1) := by decide +kernel
theorem dX4_earliestDue_53 : decode cX4_earliestDue 53 = .ok (.iconst 2, 1) := by decide +kernel
theorem dX4_earliestDue_54 : decode cX4_earliestDue 54 = .ok (.idiv, 1) := by decide +kernel
theorem dX4_earliestDue_55 : decode cX4_earliestDue 55 = .ok (.istore 6, 2) := by decide +kernel
theorem dX4_earliestDue_57 : decode cX4_earliestDue 57 = .ok (.aload_n 0, 1) := by decide +kernel
theorem dX4_earliestDue_58 : decode cX4_earliestDue 58 = .ok (.getfield 16, 3) := by decide +kernel
theorem dX4_earliestDue_61 : decode cX4_earliestDue 61 = .ok (.getfield 106, 3) := by decide +kernel
theorem dX4_earliestDue_64 : decode cX4_earliestDue 64 = .ok (.iload_n 1, 1) := by decide +kernel
theorem dX4_earliestDue_65 : decode cX4_earliestDue 65 = .ok (.iload 6, 2) := by decide +kernel
theorem dX4_earliestDue_67 : decode cX4_earliestDue 67 = .ok (.iastore, 1) := by decide +kernel
theorem dX4_earliestDue_68 : decode cX4_earliestDue 68 = .ok (.aload_n 0, 1) := by decide +kernel
theorem dX4_earliestDue_69 : decode cX4_earliestDue 69 = .ok (.getfield 62, 3) := by decide +kernel
theorem dX4_earliestDue_72 : decode cX4_earliestDue 72 = .ok (.aload_n 0, 1) := by decide +kernel
theorem dX4_earliestDue_73 : decode cX4_earliestDue 73 = .ok (.getfield 16, 3) := by decide +kernel
theorem dX4_earliestDue_76 : decode cX4_earliestDue 76 = .ok (.iload_n 2, 1) := by decide +kernel
theorem dX4_earliestDue_77 : decode cX4_earliestDue 77 = .ok (.invokevirtual 179, 3) := by decide +kernel
theorem dX4_earliestDue_80 : decode cX4_earliestDue 80 = .ok (.aload_n 0, 1) := by decide +kernel
theorem dX4_earliestDue_81 : decode cX4_earliestDue 81 = .ok (.getfield 51, 3) := by decide +kernel
theorem dX4_earliestDue_84 : decode cX4_earliestDue 84 = .ok (.iload_n 2, 1) := by decide +kernel
theorem dX4_earliestDue_85 : decode cX4_earliestDue 85 = .ok (.iaload, 1) := by decide +kernel
theorem dX4_earliestDue_86 : decode cX4_earliestDue 86 = .ok (.isub, 1) := by decide +kernel
theorem dX4_earliestDue_87 : decode cX4_earliestDue 87 = .ok (.istore 7, 2) := by decide +kernel
theorem dX4_earliestDue_89 : decode cX4_earliestDue 89 = .ok (.iload 7, 2) := by decide +kernel
theorem dX4_earliestDue_91 : decode cX4_earliestDue 91 = .ok (.ifCond .gt 10, 3) := by decide +kernel
theorem dX4_earliestDue_94 : decode cX4_earliestDue 94 = .ok (.iload 6, 2) := by decide +kernel
theorem dX4_earliestDue_96 : decode cX4_earliestDue 96 = .ok (.istore 4, 2) := by decide +kernel
theorem dX4_earliestDue_98 : decode cX4_earliestDue 98 = .ok (.goto 9, 3) := by decide +kernel
theorem dX4_earliestDue_101 : decode cX4_earliestDue 101 = .ok (.iload 6, 2) := by decide +kernel
theorem dX4_earliestDue_103 : decode cX4_earliestDue 103 = .ok (.iload 7, 2) := by decide +kernel
theorem dX4_earliestDue_105 : decode cX4_earliestDue 105 = .ok (.iadd, 1) := by decide +kernel
theorem dX4_earliestDue_106 : decode cX4_earliestDue 106 = .ok (.istore_n 3, 1) := by decide +kernel
theorem dX4_earliestDue_107 : decode cX4_earliestDue 107 = .ok (.iinc 5 1, 3) := by decide +kernel
theorem dX4_earliestDue_110 : decode cX4_earliestDue 110 = .ok (.goto (-74), 3) := by decide +kernel
theorem dX4_earliestDue_113 : decode cX4_earliestDue 113 = .ok (.iload 4, 2) := by decide +kernel
theorem dX4_earliestDue_115 : decode cX4_earliestDue 115 = .ok (.ireturn, 1) := by decide +kernel
theorem dX4_layRule_0 : decode cX4_layRule 0 = .ok (.aload_n 0, 1) := by decide +kernel
theorem dX4_layRule_1 : decode cX4_layRule 1 = .ok (.getfield 44, 3) := by decide +kernel
theorem dX4_layRule_4 : decode cX4_layRule 4 = .ok (.invokevirtual 189, 3) := by decide +kernel
theorem dX4_layRule_7 : decode cX4_layRule 7 = .ok (.aload_n 0, 1) := by decide +kernel
theorem dX4_layRule_8 : decode cX4_layRule 8 = .ok (.getfield 10, 3) := by decide +kernel
theorem dX4_layRule_11 : decode cX4_layRule 11 = .ok (.invokevirtual 192, 3) := by decide +kernel
theorem dX4_layRule_14 : decode cX4_layRule 14 = .ok (.istore_n 1, 1) := by decide +kernel
theorem dX4_layRule_15 : decode cX4_layRule 15 = .ok (.iconst 0, 1) := by decide +kernel
theorem dX4_layRule_16 : decode cX4_layRule 16 = .ok (.istore_n 2, 1) := by decide +kernel
theorem dX4_layRule_17 : decode cX4_layRule 17 = .ok (.iload_n 2, 1) := by decide +kernel
theorem dX4_layRule_18 : decode cX4_layRule 18 = .ok (.bipush 7, 2) := by decide +kernel
theorem dX4_layRule_20 : decode cX4_layRule 20 = .ok (.if_icmp .ge 37, 3) := by decide +kernel
theorem dX4_layRule_23 : decode cX4_layRule 23 = .ok (.iload_n 1, 1) := by decide +kernel
theorem dX4_layRule_24 : decode cX4_layRule 24 = .ok (.ifCond .eq 33, 3) := by decide +kernel
theorem dX4_layRule_27 : decode cX4_layRule 27 = .ok (.aload_n 0, 1) := by decide +kernel
theorem dX4_layRule_28 : decode cX4_layRule 28 = .ok (.iload_n 1, 1) := by decide +kernel
theorem dX4_layRule_29 : decode cX4_layRule 29 = .ok (.invokevirtual 195, 3) := by decide +kernel
theorem dX4_layRule_32 : decode cX4_layRule 32 = .ok (.istore_n 3, 1) := by decide +kernel
theorem dX4_layRule_33 : decode cX4_layRule 33 = .ok (.aload_n 0, 1) := by decide +kernel
theorem dX4_layRule_34 : decode cX4_layRule 34 = .ok (.getfield 44, 3) := by decide +kernel
theorem dX4_layRule_37 : decode cX4_layRule 37 = .ok (.aload_n 0, 1) := by decide +kernel
theorem dX4_layRule_38 : decode cX4_layRule 38 = .ok (.getfield 10, 3) := by decide +kernel
theorem dX4_layRule_41 : decode cX4_layRule 41 = .ok (.iload_n 3, 1) := by decide +kernel
theorem dX4_layRule_42 : decode cX4_layRule 42 = .ok (.invokevirtual 198, 3) := by decide +kernel
theorem dX4_layRule_45 : decode cX4_layRule 45 = .ok (.iload_n 1, 1) := by decide +kernel
theorem dX4_layRule_46 : decode cX4_layRule 46 = .ok (.iload_n 3, 1) := by decide +kernel
theorem dX4_layRule_47 : decode cX4_layRule 47 = .ok (.iconst (-1), 1) := by decide +kernel
theorem dX4_layRule_48 : decode cX4_layRule 48 = .ok (.ixor, 1) := by decide +kernel
theorem dX4_layRule_49 : decode cX4_layRule 49 = .ok (.iand, 1) := by decide +kernel
theorem dX4_layRule_50 : decode cX4_layRule 50 = .ok (.istore_n 1, 1) := by decide +kernel
theorem dX4_layRule_51 : decode cX4_layRule 51 = .ok (.iinc 2 1, 3) := by decide +kernel
theorem dX4_layRule_54 : decode cX4_layRule 54 = .ok (.goto (-37), 3) := by decide +kernel
theorem dX4_layRule_57 : decode cX4_layRule 57 = .ok (.return_, 1) := by decide +kernel
theorem dX4_ruleBatch_0 : decode cX4_ruleBatch 0 = .ok (.aload_n 0, 1) := by decide +kernel
theorem dX4_ruleBatch_1 : decode cX4_ruleBatch 1 = .ok (.iload_n 1, 1) := by decide +kernel
theorem dX4_ruleBatch_2 : decode cX4_ruleBatch 2 = .ok (.invokevirtual 202, 3) := by decide +kernel
theorem dX4_ruleBatch_5 : decode cX4_ruleBatch 5 = .ok (.istore_n 2, 1) := by decide +kernel
theorem dX4_ruleBatch_6 : decode cX4_ruleBatch 6 = .ok (.iconst 1, 1) := by decide +kernel
theorem dX4_ruleBatch_7 : decode cX4_ruleBatch 7 = .ok (.iload_n 2, 1) := by decide +kernel
theorem dX4_ruleBatch_8 : decode cX4_ruleBatch 8 = .ok (.ishl, 1) := by decide +kernel
theorem dX4_ruleBatch_9 : decode cX4_ruleBatch 9 = .ok (.istore_n 3, 1) := by decide +kernel
theorem dX4_ruleBatch_10 : decode cX4_ruleBatch 10 = .ok (.aload_n 0, 1) := by decide +kernel
theorem dX4_ruleBatch_11 : decode cX4_ruleBatch 11 = .ok (.getfield 10, 3) := by decide +kernel
theorem dX4_ruleBatch_14 : decode cX4_ruleBatch 14 = .ok (.getfield 112, 3) := by decide +kernel
theorem dX4_ruleBatch_17 : decode cX4_ruleBatch 17 = .ok (.iload_n 2, 1) := by decide +kernel
theorem dX4_ruleBatch_18 : decode cX4_ruleBatch 18 = .ok (.iaload, 1) := by decide +kernel
theorem dX4_ruleBatch_19 : decode cX4_ruleBatch 19 = .ok (.istore 4, 2) := by decide +kernel
theorem dX4_ruleBatch_21 : decode cX4_ruleBatch 21 = .ok (.iload_n 1, 1) := by decide +kernel
theorem dX4_ruleBatch_22 : decode cX4_ruleBatch 22 = .ok (.aload_n 0, 1) := by decide +kernel
theorem dX4_ruleBatch_23 : decode cX4_ruleBatch 23 = .ok (.getfield 10, 3) := by decide +kernel
theorem dX4_ruleBatch_26 : decode cX4_ruleBatch 26 = .ok (.aload_n 0, 1) := by decide +kernel
theorem dX4_ruleBatch_27 : decode cX4_ruleBatch 27 = .ok (.getfield 10, 3) := by decide +kernel
theorem dX4_ruleBatch_30 : decode cX4_ruleBatch 30 = .ok (.getfield 109, 3) := by decide +kernel
theorem dX4_ruleBatch_33 : decode cX4_ruleBatch 33 = .ok (.iload_n 2, 1) := by decide +kernel
theorem dX4_ruleBatch_34 : decode cX4_ruleBatch 34 = .ok (.iaload, 1) := by decide +kernel
theorem dX4_ruleBatch_35 : decode cX4_ruleBatch 35 = .ok (.invokevirtual 205, 3) := by decide +kernel
theorem dX4_ruleBatch_38 : decode cX4_ruleBatch 38 = .ok (.iand, 1) := by decide +kernel
theorem dX4_ruleBatch_39 : decode cX4_ruleBatch 39 = .ok (.iload_n 3, 1) := by decide +kernel
theorem dX4_ruleBatch_40 : decode cX4_ruleBatch 40 = .ok (.iconst (-1), 1) := by decide +kernel
theorem dX4_ruleBatch_41 : decode cX4_ruleBatch 41 = .ok (.ixor, 1) := by decide +kernel
theorem dX4_ruleBatch_42 : decode cX4_ruleBatch 42 = .ok (.iand, 1) := by decide +kernel
theorem dX4_ruleBatch_43 : decode cX4_ruleBatch 43 = .ok (.istore 5, 2) := by decide +kernel
theorem dX4_ruleBatch_45 : decode cX4_ruleBatch 45 = .ok (.iconst 0, 1) := by decide +kernel
theorem dX4_ruleBatch_46 : decode cX4_ruleBatch 46 = .ok (.istore 6, 2) := by decide +kernel
theorem dX4_ruleBatch_48 : decode cX4_ruleBatch 48 = .ok (.iload 6, 2) := by decide +kernel
theorem dX4_ruleBatch_50 : decode cX4_ruleBatch 50 = .ok (.bipush 7, 2) := by decide +kernel
theorem dX4_ruleBatch_52 : decode cX4_ruleBatch 52 = .ok (.if_icmp .ge 78, 3) := by decide +kernel
theorem dX4_ruleBatch_55 : decode cX4_ruleBatch 55 = .ok (.iload 5, 2) := by decide +kernel
theorem dX4_ruleBatch_57 : decode cX4_ruleBatch 57 = .ok (.ifCond .eq 73, 3) := by decide +kernel
theorem dX4_ruleBatch_60 : decode cX4_ruleBatch 60 = .ok (.aload_n 0, 1) := by decide +kernel
theorem dX4_ruleBatch_61 : decode cX4_ruleBatch 61 = .ok (.iload 5, 2) := by decide +kernel
theorem dX4_ruleBatch_63 : decode cX4_ruleBatch 63 = .ok (.invokevirtual 202, 3) := by decide +kernel
theorem dX4_ruleBatch_66 : decode cX4_ruleBatch 66 = .ok (.istore 7, 2) := by decide +kernel
theorem dX4_ruleBatch_68 : decode cX4_ruleBatch 68 = .ok (.iload 5, 2) := by decide +kernel
theorem dX4_ruleBatch_70 : decode cX4_ruleBatch 70 = .ok (.iconst 1, 1) := by decide +kernel
theorem dX4_ruleBatch_71 : decode cX4_ruleBatch 71 = .ok (.iload 7, 2) := by decide +kernel
theorem dX4_ruleBatch_73 : decode cX4_ruleBatch 73 = .ok (.ishl, 1) := by decide +kernel
theorem dX4_ruleBatch_74 : decode cX4_ruleBatch 74 = .ok (.iconst (-1), 1) := by decide +kernel
theorem dX4_ruleBatch_75 : decode cX4_ruleBatch 75 = .ok (.ixor, 1) := by decide +kernel
theorem dX4_ruleBatch_76 : decode cX4_ruleBatch 76 = .ok (.iand, 1) := by decide +kernel
theorem dX4_ruleBatch_77 : decode cX4_ruleBatch 77 = .ok (.istore 5, 2) := by decide +kernel
theorem dX4_ruleBatch_79 : decode cX4_ruleBatch 79 = .ok (.iload 4, 2) := by decide +kernel
theorem dX4_ruleBatch_81 : decode cX4_ruleBatch 81 = .ok (.aload_n 0, 1) := by decide +kernel
theorem dX4_ruleBatch_82 : decode cX4_ruleBatch 82 = .ok (.getfield 10, 3) := by decide +kernel
theorem dX4_ruleBatch_85 : decode cX4_ruleBatch 85 = .ok (.getfield 112, 3) := by decide +kernel
theorem dX4_ruleBatch_88 : decode cX4_ruleBatch 88 = .ok (.iload 7, 2) := by decide +kernel
theorem dX4_ruleBatch_90 : decode cX4_ruleBatch 90 = .ok (.iaload, 1) := by decide +kernel
theorem dX4_ruleBatch_91 : decode cX4_ruleBatch 91 = .ok (.iadd, 1) := by decide +kernel
theorem dX4_ruleBatch_92 : decode cX4_ruleBatch 92 = .ok (.aload_n 0, 1) := by decide +kernel
theorem dX4_ruleBatch_93 : decode cX4_ruleBatch 93 = .ok (.getfield 10, 3) := by decide +kernel
theorem dX4_ruleBatch_96 : decode cX4_ruleBatch 96 = .ok (.getfield 83, 3) := by decide +kernel
theorem dX4_ruleBatch_99 : decode cX4_ruleBatch 99 = .ok (.if_icmp .gt 25, 3) := by decide +kernel
theorem dX4_ruleBatch_102 : decode cX4_ruleBatch 102 = .ok (.iload 4, 2) := by decide +kernel
theorem dX4_ruleBatch_104 : decode cX4_ruleBatch 104 = .ok (.aload_n 0, 1) := by decide +kernel
theorem dX4_ruleBatch_105 : decode cX4_ruleBatch 105 = .ok (.getfield 10, 3) := by decide +kernel
theorem dX4_ruleBatch_108 : decode cX4_ruleBatch 108 = .ok (.getfield 112, 3) := by decide +kernel
theorem dX4_ruleBatch_111 : decode cX4_ruleBatch 111 = .ok (.iload 7, 2) := by decide +kernel
theorem dX4_ruleBatch_113 : decode cX4_ruleBatch 113 = .ok (.iaload, 1) := by decide +kernel
theorem dX4_ruleBatch_114 : decode cX4_ruleBatch 114 = .ok (.iadd, 1) := by decide +kernel
theorem dX4_ruleBatch_115 : decode cX4_ruleBatch 115 = .ok (.istore 4, 2) := by decide +kernel
theorem dX4_ruleBatch_117 : decode cX4_ruleBatch 117 = .ok (.iload_n 3, 1) := by decide +kernel
theorem dX4_ruleBatch_118 : decode cX4_ruleBatch 118 = .ok (.iconst 1, 1) := by decide +kernel
theorem dX4_ruleBatch_119 : decode cX4_ruleBatch 119 = .ok (.iload 7, 2) := by decide +kernel
theorem dX4_ruleBatch_121 : decode cX4_ruleBatch 121 = .ok (.ishl, 1) := by decide +kernel
theorem dX4_ruleBatch_122 : decode cX4_ruleBatch 122 = .ok (.ior, 1) := by decide +kernel
theorem dX4_ruleBatch_123 : decode cX4_ruleBatch 123 = .ok (.istore_n 3, 1) := by decide +kernel
theorem dX4_ruleBatch_124 : decode cX4_ruleBatch 124 = .ok (.iinc 6 1, 3) := by decide +kernel
theorem dX4_ruleBatch_127 : decode cX4_ruleBatch 127 = .ok (.goto (-79), 3) := by decide +kernel
theorem dX4_ruleBatch_130 : decode cX4_ruleBatch 130 = .ok (.iload_n 3, 1) := by decide +kernel
theorem dX4_ruleBatch_131 : decode cX4_ruleBatch 131 = .ok (.ireturn, 1) := by decide +kernel
theorem dX4_tightest_0 : decode cX4_tightest 0 = .ok (.iconst 0, 1) := by decide +kernel
theorem dX4_tightest_1 : decode cX4_tightest 1 = .ok (.istore_n 2, 1) := by decide +kernel
theorem dX4_tightest_2 : decode cX4_tightest 2 = .ok (.ldc 208, 2) := by decide +kernel
theorem dX4_tightest_4 : decode cX4_tightest 4 = .ok (.istore_n 3, 1) := by decide +kernel
theorem dX4_tightest_5 : decode cX4_tightest 5 = .ok (.iconst 0, 1) := by decide +kernel
theorem dX4_tightest_6 : decode cX4_tightest 6 = .ok (.istore 4, 2) := by decide +kernel
theorem dX4_tightest_8 : decode cX4_tightest 8 = .ok (.iload 4, 2) := by decide +kernel
theorem dX4_tightest_10 : decode cX4_tightest 10 = .ok (.aload_n 0, 1) := by decide +kernel
theorem dX4_tightest_11 : decode cX4_tightest 11 = .ok (.getfield 10, 3) := by decide +kernel
theorem dX4_tightest_14 : decode cX4_tightest 14 = .ok (.getfield 92, 3) := by decide +kernel
theorem dX4_tightest_17 : decode cX4_tightest 17 = .ok (.if_icmp .ge 44, 3) := by decide +kernel
theorem dX4_tightest_20 : decode cX4_tightest 20 = .ok (.iload_n 1, 1) := by decide +kernel
theorem dX4_tightest_21 : decode cX4_tightest 21 = .ok (.iload 4, 2) := by decide +kernel
theorem dX4_tightest_23 : decode cX4_tightest 23 = .ok (.invokestatic 156, 3) := by decide +kernel
theorem dX4_tightest_26 : decode cX4_tightest 26 = .ok (.ifCond .eq 29, 3) := by decide +kernel
theorem dX4_tightest_29 : decode cX4_tightest 29 = .ok (.aload_n 0, 1) := by decide +kernel
theorem dX4_tightest_30 : decode cX4_tightest 30 = .ok (.getfield 10, 3) := by decide +kernel
theorem dX4_tightest_33 : decode cX4_tightest 33 = .ok (.iload 4, 2) := by decide +kernel
theorem dX4_tightest_35 : decode cX4_tightest 35 = .ok (.invokevirtual 115, 3) := by decide +kernel
theorem dX4_tightest_38 : decode cX4_tightest 38 = .ok (.iload_n 3, 1) := by decide +kernel
theorem dX4_tightest_39 : decode cX4_tightest 39 = .ok (.if_icmp .ge 16, 3) := by decide +kernel
theorem dX4_tightest_42 : decode cX4_tightest 42 = .ok (.iload 4, 2) := by decide +kernel
theorem dX4_tightest_44 : decode cX4_tightest 44 = .ok (.istore_n 2, 1) := by decide +kernel
theorem dX4_tightest_45 : decode cX4_tightest 45 = .ok (.aload_n 0, 1) := by decide +kernel
theorem dX4_tightest_46 : decode cX4_tightest 46 = .ok (.getfield 10, 3) := by decide +kernel
theorem dX4_tightest_49 : decode cX4_tightest 49 = .ok (.iload 4, 2) := by decide +kernel
theorem dX4_tightest_51 : decode cX4_tightest 51 = .ok (.invokevirtual 115, 3) := by decide +kernel
theorem dX4_tightest_54 : decode cX4_tightest 54 = .ok (.istore_n 3, 1) := by decide +kernel
theorem dX4_tightest_55 : decode cX4_tightest 55 = .ok (.iinc 4 1, 3) := by decide +kernel
theorem dX4_tightest_58 : decode cX4_tightest 58 = .ok (.goto (-50), 3) := by decide +kernel
theorem dX4_tightest_61 : decode cX4_tightest 61 = .ok (.iload_n 2, 1) := by decide +kernel
theorem dX4_tightest_62 : decode cX4_tightest 62 = .ok (.ireturn, 1) := by decide +kernel
theorem dX4_putIn_0 : decode cX4_putIn 0 = .ok (.ldc 208, 2) := by decide +kernel
theorem dX4_putIn_2 : decode cX4_putIn 2 = .ok (.istore_n 3, 1) := by decide +kernel
theorem dX4_putIn_3 : decode cX4_putIn 3 = .ok (.iconst 0, 1) := by decide +kernel
theorem dX4_putIn_4 : decode cX4_putIn 4 = .ok (.istore 4, 2) := by decide +kernel
theorem dX4_putIn_6 : decode cX4_putIn 6 = .ok (.iconst 0, 1) := by decide +kernel
theorem dX4_putIn_7 : decode cX4_putIn 7 = .ok (.istore 5, 2) := by decide +kernel
theorem dX4_putIn_9 : decode cX4_putIn 9 = .ok (.iload 5, 2) := by decide +kernel
theorem dX4_putIn_11 : decode cX4_putIn 11 = .ok (.iconst 2, 1) := by decide +kernel
theorem dX4_putIn_12 : decode cX4_putIn 12 = .ok (.aload_n 0, 1) := by decide +kernel
theorem dX4_putIn_13 : decode cX4_putIn 13 = .ok (.getfield 37, 3) := by decide +kernel
theorem dX4_putIn_16 : decode cX4_putIn 16 = .ok (.getfield 209, 3) := by decide +kernel
theorem dX4_putIn_19 : decode cX4_putIn 19 = .ok (.imul, 1) := by decide +kernel
theorem dX4_putIn_20 : decode cX4_putIn 20 = .ok (.if_icmp .gt 57, 3) := by decide +kernel
theorem dX4_putIn_23 : decode cX4_putIn 23 = .ok (.aload_n 0, 1) := by decide +kernel
theorem dX4_putIn_24 : decode cX4_putIn 24 = .ok (.getfield 41, 3) := by decide +kernel
theorem dX4_putIn_27 : decode cX4_putIn 27 = .ok (.aload_n 0, 1) := by decide +kernel
theorem dX4_putIn_28 : decode cX4_putIn 28 = .ok (.getfield 10, 3) := by decide +kernel
theorem dX4_putIn_31 : decode cX4_putIn 31 = .ok (.aload_n 0, 1) := by decide +kernel
theorem dX4_putIn_32 : decode cX4_putIn 32 = .ok (.getfield 37, 3) := by decide +kernel
theorem dX4_putIn_35 : decode cX4_putIn 35 = .ok (.iload_n 1, 1) := by decide +kernel
theorem dX4_putIn_36 : decode cX4_putIn 36 = .ok (.iload 5, 2) := by decide +kernel
theorem dX4_putIn_38 : decode cX4_putIn 38 = .ok (.invokevirtual 212, 3) := by decide +kernel
theorem dX4_putIn_41 : decode cX4_putIn 41 = .ok (.ifCond .eq 30, 3) := by decide +kernel
theorem dX4_putIn_44 : decode cX4_putIn 44 = .ok (.aload_n 0, 1) := by decide +kernel
theorem dX4_putIn_45 : decode cX4_putIn 45 = .ok (.getfield 41, 3) := by decide +kernel
theorem dX4_putIn_48 : decode cX4_putIn 48 = .ok (.aload_n 0, 1) := by decide +kernel
theorem dX4_putIn_49 : decode cX4_putIn 49 = .ok (.getfield 10, 3) := by decide +kernel
theorem dX4_putIn_52 : decode cX4_putIn 52 = .ok (.iconst 1, 1) := by decide +kernel
theorem dX4_putIn_53 : decode cX4_putIn 53 = .ok (.invokevirtual 138, 3) := by decide +kernel
theorem dX4_putIn_56 : decode cX4_putIn 56 = .ok (.istore 6, 2) := by decide +kernel
theorem dX4_putIn_58 : decode cX4_putIn 58 = .ok (.iload 6, 2) := by decide +kernel
theorem dX4_putIn_60 : decode cX4_putIn 60 = .ok (.iload_n 3, 1) := by decide +kernel
theorem dX4_putIn_61 : decode cX4_putIn 61 = .ok (.if_icmp .ge 10, 3) := by decide +kernel
theorem dX4_putIn_64 : decode cX4_putIn 64 = .ok (.iload 6, 2) := by decide +kernel
theorem dX4_putIn_66 : decode cX4_putIn 66 = .ok (.istore_n 3, 1) := by decide +kernel
theorem dX4_putIn_67 : decode cX4_putIn 67 = .ok (.iload 5, 2) := by decide +kernel
theorem dX4_putIn_69 : decode cX4_putIn 69 = .ok (.istore 4, 2) := by decide +kernel
theorem dX4_putIn_71 : decode cX4_putIn 71 = .ok (.iinc 5 1, 3) := by decide +kernel
theorem dX4_putIn_74 : decode cX4_putIn 74 = .ok (.goto (-65), 3) := by decide +kernel
theorem dX4_putIn_77 : decode cX4_putIn 77 = .ok (.iload_n 2, 1) := by decide +kernel
theorem dX4_putIn_78 : decode cX4_putIn 78 = .ok (.ifCond .eq 8, 3) := by decide +kernel
theorem dX4_putIn_81 : decode cX4_putIn 81 = .ok (.iload 4, 2) := by decide +kernel
theorem dX4_putIn_83 : decode cX4_putIn 83 = .ok (.goto 4, 3) := by decide +kernel
theorem dX4_putIn_86 : decode cX4_putIn 86 = .ok (.iload_n 3, 1) := by decide +kernel
theorem dX4_putIn_87 : decode cX4_putIn 87 = .ok (.ireturn, 1) := by decide +kernel
theorem dX5_init_0 : decode cX5_init 0 = .ok (.aload_n 0, 1) := by decide +kernel
theorem dX5_init_1 : decode cX5_init 1 = .ok (.invokespecial 1, 3) := by decide +kernel
theorem dX5_init_4 : decode cX5_init 4 = .ok (.aload_n 0, 1) := by decide +kernel
theorem dX5_init_5 : decode cX5_init 5 = .ok (.bipush 31, 2) := by decide +kernel
theorem dX5_init_7 : decode cX5_init 7 = .ok (.newarray .int, 2) := by decide +kernel
theorem dX5_init_9 : decode cX5_init 9 = .ok (.putfield 7, 3) := by decide +kernel
theorem dX5_init_12 : decode cX5_init 12 = .ok (.aload_n 0, 1) := by decide +kernel
theorem dX5_init_13 : decode cX5_init 13 = .ok (.bipush 62, 2) := by decide +kernel
theorem dX5_init_15 : decode cX5_init 15 = .ok (.newarray .int, 2) := by decide +kernel
theorem dX5_init_17 : decode cX5_init 17 = .ok (.putfield 13, 3) := by decide +kernel
theorem dX5_init_20 : decode cX5_init 20 = .ok (.aload_n 0, 1) := by decide +kernel
theorem dX5_init_21 : decode cX5_init 21 = .ok (.iconst 2, 1) := by decide +kernel
theorem dX5_init_22 : decode cX5_init 22 = .ok (.newarray .boolean, 2) := by decide +kernel
theorem dX5_init_24 : decode cX5_init 24 = .ok (.putfield 16, 3) := by decide +kernel
theorem dX5_init_27 : decode cX5_init 27 = .ok (.aload_n 0, 1) := by decide +kernel
theorem dX5_init_28 : decode cX5_init 28 = .ok (.bipush 14, 2) := by decide +kernel
theorem dX5_init_30 : decode cX5_init 30 = .ok (.newarray .int, 2) := by decide +kernel
theorem dX5_init_32 : decode cX5_init 32 = .ok (.putfield 20, 3) := by decide +kernel
theorem dX5_init_35 : decode cX5_init 35 = .ok (.aload_n 0, 1) := by decide +kernel
theorem dX5_init_36 : decode cX5_init 36 = .ok (.bipush 15, 2) := by decide +kernel
theorem dX5_init_38 : decode cX5_init 38 = .ok (.newarray .int, 2) := by decide +kernel
theorem dX5_init_40 : decode cX5_init 40 = .ok (.putfield 23, 3) := by decide +kernel
theorem dX5_init_43 : decode cX5_init 43 = .ok (.aload_n 0, 1) := by decide +kernel
theorem dX5_init_44 : decode cX5_init 44 = .ok (.bipush 15, 2) := by decide +kernel
theorem dX5_init_46 : decode cX5_init 46 = .ok (.newarray .int, 2) := by decide +kernel
theorem dX5_init_48 : decode cX5_init 48 = .ok (.putfield 26, 3) := by decide +kernel
theorem dX5_init_51 : decode cX5_init 51 = .ok (.aload_n 0, 1) := by decide +kernel
theorem dX5_init_52 : decode cX5_init 52 = .ok (.sipush 128, 3) := by decide +kernel
theorem dX5_init_55 : decode cX5_init 55 = .ok (.newarray .int, 2) := by decide +kernel
theorem dX5_init_57 : decode cX5_init 57 = .ok (.putfield 29, 3) := by decide +kernel
theorem dX5_init_60 : decode cX5_init 60 = .ok (.aload_n 0, 1) := by decide +kernel
theorem dX5_init_61 : decode cX5_init 61 = .ok (.ldc 32, 2) := by decide +kernel
theorem dX5_init_63 : decode cX5_init 63 = .ok (.newarray .boolean, 2) := by decide +kernel
theorem dX5_init_65 : decode cX5_init 65 = .ok (.putfield 33, 3) := by decide +kernel
theorem dX5_init_68 : decode cX5_init 68 = .ok (.aload_n 0, 1) := by decide +kernel
theorem dX5_init_69 : decode cX5_init 69 = .ok (.ldc 32, 2) := by decide +kernel
theorem dX5_init_71 : decode cX5_init 71 = .ok (.newarray .int, 2) := by decide +kernel
theorem dX5_init_73 : decode cX5_init 73 = .ok (.putfield 36, 3) := by decide +kernel
theorem dX5_init_76 : decode cX5_init 76 = .ok (.iconst 0, 1) := by decide +kernel
theorem dX5_init_77 : decode cX5_init 77 = .ok (.istore_n 1, 1) := by decide +kernel
theorem dX5_init_78 : decode cX5_init 78 = .ok (.iload_n 1, 1) := by decide +kernel
theorem dX5_init_79 : decode cX5_init 79 = .ok (.iconst 3, 1) := by decide +kernel
theorem dX5_init_80 : decode cX5_init 80 = .ok (.if_icmp .ge 31, 3) := by decide +kernel
theorem dX5_init_83 : decode cX5_init 83 = .ok (.aload_n 0, 1) := by decide +kernel
theorem dX5_init_84 : decode cX5_init 84 = .ok (.getfield 7, 3) := by decide +kernel
theorem dX5_init_87 : decode cX5_init 87 = .ok (.iconst 0, 1) := by decide +kernel
theorem dX5_init_88 : decode cX5_init 88 = .ok (.iload_n 1, 1) := by decide +kernel
theorem dX5_init_89 : decode cX5_init 89 = .ok (.iadd, 1) := by decide +kernel
theorem dX5_init_90 : decode cX5_init 90 = .ok (.iconst 3, 1) := by decide +kernel
theorem dX5_init_91 : decode cX5_init 91 = .ok (.iload_n 1, 1) := by decide +kernel
theorem dX5_init_92 : decode cX5_init 92 = .ok (.imul, 1) := by decide +kernel
theorem dX5_init_93 : decode cX5_init 93 = .ok (.iconst 3, 1) := by decide +kernel
theorem dX5_init_94 : decode cX5_init 94 = .ok (.iadd, 1) := by decide +kernel
theorem dX5_init_95 : decode cX5_init 95 = .ok (.iastore, 1) := by decide +kernel
theorem dX5_init_96 : decode cX5_init 96 = .ok (.aload_n 0, 1) := by decide +kernel
theorem dX5_init_97 : decode cX5_init 97 = .ok (.getfield 7, 3) := by decide +kernel
theorem dX5_init_100 : decode cX5_init 100 = .ok (.iconst 3, 1) := by decide +kernel
theorem dX5_init_101 : decode cX5_init 101 = .ok (.iload_n 1, 1) := by decide +kernel
theorem dX5_init_102 : decode cX5_init 102 = .ok (.iadd, 1) := by decide +kernel
theorem dX5_init_103 : decode cX5_init 103 = .ok (.iconst 5, 1) := by decide +kernel
theorem dX5_init_104 : decode cX5_init 104 = .ok (.iastore, 1) := by decide +kernel
theorem dX5_init_105 : decode cX5_init 105 = .ok (.iinc 1 1, 3) := by decide +kernel
theorem dX5_init_108 : decode cX5_init 108 = .ok (.goto (-30), 3) := by decide +kernel
theorem dX5_init_111 : decode cX5_init 111 = .ok (.aload_n 0, 1) := by decide +kernel
theorem dX5_init_112 : decode cX5_init 112 = .ok (.getfield 7, 3) := by decide +kernel
theorem dX5_init_115 : decode cX5_init 115 = .ok (.bipush 6, 2) := by decide +kernel
theorem dX5_init_117 : decode cX5_init 117 = .ok (.bipush 10, 2) := by decide +kernel
theorem dX5_init_119 : decode cX5_init 119 = .ok (.iastore, 1) := by decide +kernel
theorem dX5_init_120 : decode cX5_init 120 = .ok (.aload_n 0, 1) := by decide +kernel
theorem dX5_init_121 : decode cX5_init 121 = .ok (.getfield 7, 3) := by decide +kernel
theorem dX5_init_124 : decode cX5_init 124 = .ok (.bipush 7, 2) := by decide +kernel
theorem dX5_init_126 : decode cX5_init 126 = .ok (.iconst 1, 1) := by decide +kernel
theorem dX5_init_127 : decode cX5_init 127 = .ok (.iastore, 1) := by decide +kernel
theorem dX5_init_128 : decode cX5_init 128 = .ok (.aload_n 0, 1) := by decide +kernel
theorem dX5_init_129 : decode cX5_init 129 = .ok (.getfield 7, 3) := by decide +kernel
theorem dX5_init_132 : decode cX5_init 132 = .ok (.bipush 8, 2) := by decide +kernel
theorem dX5_init_134 : decode cX5_init 134 = .ok (.iconst 1, 1) := by decide +kernel
theorem dX5_init_135 : decode cX5_init 135 = .ok (.iastore, 1) := by decide +kernel
theorem dX5_init_136 : decode cX5_init 136 = .ok (.return_, 1) := by decide +kernel
theorem dX5_in_0 : decode cX5_in 0 = .ok (.iload_n 0, 1) := by decide +kernel
theorem dX5_in_1 : decode cX5_in 1 = .ok (.iload_n 1, 1) := by decide +kernel
theorem dX5_in_2 : decode cX5_in 2 = .ok (.if_icmp .lt 12, 3) := by decide +kernel
theorem dX5_in_5 : decode cX5_in 5 = .ok (.iload_n 0, 1) := by decide +kernel
theorem dX5_in_6 : decode cX5_in 6 = .ok (.iload_n 2, 1) := by decide +kernel
theorem dX5_in_7 : decode cX5_in 7 = .ok (.if_icmp .gt 7, 3) := by decide +kernel
theorem dX5_in_10 : decode cX5_in 10 = .ok (.iconst 1, 1) := by decide +kernel
theorem dX5_in_11 : decode cX5_in 11 = .ok (.goto 4, 3) := by decide +kernel
theorem dX5_in_14 : decode cX5_in 14 = .ok (.iconst 0, 1) := by decide +kernel
theorem dX5_in_15 : decode cX5_in 15 = .ok (.ireturn, 1) := by decide +kernel
theorem dX5_isFamily_0 : decode cX5_isFamily 0 = .ok (.iload_n 0, 1) := by decide +kernel
theorem dX5_isFamily_1 : decode cX5_isFamily 1 = .ok (.iconst 0, 1) := by decide +kernel
theorem dX5_isFamily_2 : decode cX5_isFamily 2 = .ok (.iconst 2, 1) := by decide +kernel
theorem dX5_isFamily_3 : decode cX5_isFamily 3 = .ok (.invokestatic 39, 3) := by decide +kernel
theorem dX5_isFamily_6 : decode cX5_isFamily 6 = .ok (.ireturn, 1) := by decide +kernel
theorem dX5_many_0 : decode cX5_many 0 = .ok (.aload_n 0, 1) := by decide +kernel
theorem dX5_many_1 : decode cX5_many 1 = .ok (.getfield 7, 3) := by decide +kernel
theorem dX5_many_4 : decode cX5_many 4 = .ok (.bipush 9, 2) := by decide +kernel
theorem dX5_many_6 : decode cX5_many 6 = .ok (.iaload, 1) := by decide +kernel
theorem dX5_many_7 : decode cX5_many 7 = .ok (.ireturn, 1) := by decide +kernel
theorem dX5_isJob_0 : decode cX5_isJob 0 = .ok (.iload_n 1, 1) := by decide +kernel
theorem dX5_isJob_1 : decode cX5_isJob 1 = .ok (.iconst 0, 1) := by decide +kernel
theorem dX5_isJob_2 : decode cX5_isJob 2 = .ok (.aload_n 0, 1) := by decide +kernel
theorem dX5_isJob_3 : decode cX5_isJob 3 = .ok (.invokevirtual 43, 3) := by decide +kernel
theorem dX5_isJob_6 : decode cX5_isJob 6 = .ok (.iconst 1, 1) := by decide +kernel
theorem dX5_isJob_7 : decode cX5_isJob 7 = .ok (.isub, 1) := by decide +kernel
theorem dX5_isJob_8 : decode cX5_isJob 8 = .ok (.invokestatic 39, 3) := by decide +kernel
theorem dX5_isJob_11 : decode cX5_isJob 11 = .ok (.ireturn, 1) := by decide +kernel
theorem dX5_isMeasure_0 : decode cX5_isMeasure 0 = .ok (.iload_n 0, 1) := by decide +kernel
theorem dX5_isMeasure_1 : decode cX5_isMeasure 1 = .ok (.iconst 0, 1) := by decide +kernel
theorem dX5_isMeasure_2 : decode cX5_isMeasure 2 = .ok (.iconst 3, 1) := by decide +kernel
theorem dX5_isMeasure_3 : decode cX5_isMeasure 3 = .ok (.invokestatic 39, 3) := by decide +kernel
theorem dX5_isMeasure_6 : decode cX5_isMeasure 6 = .ok (.ireturn, 1) := by decide +kernel
theorem dX5_family_0 : decode cX5_family 0 = .ok (.iload_n 1, 1) := by decide +kernel
theorem dX5_family_1 : decode cX5_family 1 = .ok (.invokestatic 47, 3) := by decide +kernel
theorem dX5_family_4 : decode cX5_family 4 = .ok (.ifCond .ne 5, 3) := by decide +kernel
theorem dX5_family_7 : decode cX5_family 7 = .ok (.iconst (-1), 1) := by decide +kernel
theorem dX5_family_8 : decode cX5_family 8 = .ok (.ireturn, 1) := by decide +kernel
theorem dX5_family_9 : decode cX5_family 9 = .ok (.iload_n 2, 1) := by decide +kernel
theorem dX5_family_10 : decode cX5_family 10 = .ok (.iconst 0, 1) := by decide +kernel
theorem dX5_family_11 : decode cX5_family 11 = .ok (.iconst 1, 1) := by decide +kernel
theorem dX5_family_12 : decode cX5_family 12 = .ok (.invokestatic 39, 3) := by decide +kernel
theorem dX5_family_15 : decode cX5_family 15 = .ok (.ifCond .eq 22, 3) := by decide +kernel
theorem dX5_family_18 : decode cX5_family 18 = .ok (.iload_n 3, 1) := by decide +kernel
theorem dX5_family_19 : decode cX5_family 19 = .ok (.iload_n 2, 1) := by decide +kernel
theorem dX5_family_20 : decode cX5_family 20 = .ok (.iload_n 2, 1) := by decide +kernel
theorem dX5_family_21 : decode cX5_family 21 = .ok (.ifCond .ne 8, 3) := by decide +kernel
theorem dX5_family_24 : decode cX5_family 24 = .ok (.bipush 9, 2) := by decide +kernel
theorem dX5_family_26 : decode cX5_family 26 = .ok (.goto 5, 3) := by decide +kernel
theorem dX5_family_29 : decode cX5_family 29 = .ok (.bipush 20, 2) := by decide +kernel
theorem dX5_family_31 : decode cX5_family 31 = .ok (.invokestatic 39, 3) := by decide +kernel
theorem dX5_family_34 : decode cX5_family 34 = .ok (.ifCond .ne 6, 3) := by decide +kernel
theorem dX5_family_37 : decode cX5_family 37 = .ok (.bipush (-2), 2) := by decide +kernel
theorem dX5_family_39 : decode cX5_family 39 = .ok (.ireturn, 1) := by decide +kernel
theorem dX5_family_40 : decode cX5_family 40 = .ok (.aload_n 0, 1) := by decide +kernel
theorem dX5_family_41 : decode cX5_family 41 = .ok (.getfield 7, 3) := by decide +kernel
theorem dX5_family_44 : decode cX5_family 44 = .ok (.iconst 3, 1) := by decide +kernel
theorem dX5_family_45 : decode cX5_family 45 = .ok (.iload_n 2, 1) := by decide +kernel
theorem dX5_family_46 : decode cX5_family 46 = .ok (.imul, 1) := by decide +kernel
theorem dX5_family_47 : decode cX5_family 47 = .ok (.iload_n 1, 1) := by decide +kernel
theorem dX5_family_48 : decode cX5_family 48 = .ok (.iadd, 1) := by decide +kernel
theorem dX5_family_49 : decode cX5_family 49 = .ok (.iaload, 1) := by decide +kernel
theorem dX5_family_50 : decode cX5_family 50 = .ok (.istore 4, 2) := by decide +kernel
theorem dX5_family_52 : decode cX5_family 52 = .ok (.aload_n 0, 1) := by decide +kernel
theorem dX5_family_53 : decode cX5_family 53 = .ok (.getfield 7, 3) := by decide +kernel
theorem dX5_family_56 : decode cX5_family 56 = .ok (.iconst 3, 1) := by decide +kernel
theorem dX5_family_57 : decode cX5_family 57 = .ok (.iload_n 2, 1) := by decide +kernel
theorem dX5_family_58 : decode cX5_family 58 = .ok (.imul, 1) := by decide +kernel
theorem dX5_family_59 : decode cX5_family 59 = .ok (.iload_n 1, 1) := by decide +kernel
theorem dX5_family_60 : decode cX5_family 60 = .ok (.iadd, 1) := by decide +kernel
theorem dX5_family_61 : decode cX5_family 61 = .ok (.iload_n 3, 1) := by decide +kernel
theorem dX5_family_62 : decode cX5_family 62 = .ok (.iastore, 1) := by decide +kernel
theorem dX5_family_63 : decode cX5_family 63 = .ok (.iload 4, 2) := by decide +kernel
theorem dX5_family_65 : decode cX5_family 65 = .ok (.ireturn, 1) := by decide +kernel
theorem dX5_set_0 : decode cX5_set 0 = .ok (.iload_n 1, 1) := by decide +kernel
theorem dX5_set_1 : decode cX5_set 1 = .ok (.iconst 0, 1) := by decide +kernel
theorem dX5_set_2 : decode cX5_set 2 = .ok (.iconst 2, 1) := by decide +kernel
theorem dX5_set_3 : decode cX5_set 3 = .ok (.invokestatic 39, 3) := by decide +kernel
theorem dX5_set_6 : decode cX5_set 6 = .ok (.ifCond .eq 30, 3) := by decide +kernel
theorem dX5_set_9 : decode cX5_set 9 = .ok (.iload_n 2, 1) := by decide +kernel
theorem dX5_set_10 : decode cX5_set 10 = .ok (.iload_n 1, 1) := by decide +kernel
theorem dX5_set_11 : decode cX5_set 11 = .ok (.ifCond .ne 8, 3) := by decide +kernel
theorem dX5_set_14 : decode cX5_set 14 = .ok (.bipush 9, 2) := by decide +kernel
theorem dX5_set_16 : decode cX5_set 16 = .ok (.goto 4, 3) := by decide +kernel
theorem dX5_set_19 : decode cX5_set 19 = .ok (.iconst 0, 1) := by decide +kernel
theorem dX5_set_20 : decode cX5_set 20 = .ok (.iload_n 1, 1) := by decide +kernel
theorem dX5_set_21 : decode cX5_set 21 = .ok (.ifCond .ne 8, 3) := by decide +kernel
theorem dX5_set_24 : decode cX5_set 24 = .ok (.bipush 20, 2) := by decide +kernel
theorem dX5_set_26 : decode cX5_set 26 = .ok (.goto 4, 3) := by decide +kernel
theorem dX5_set_29 : decode cX5_set 29 = .ok (.iconst 3, 1) := by decide +kernel
theorem dX5_set_30 : decode cX5_set 30 = .ok (.invokestatic 39, 3) := by decide +kernel
theorem dX5_set_33 : decode cX5_set 33 = .ok (.ifCond .ne 6, 3) := by decide +kernel
theorem dX5_set_36 : decode cX5_set 36 = .ok (.bipush (-2), 2) := by decide +kernel
theorem dX5_set_38 : decode cX5_set 38 = .ok (.ireturn, 1) := by decide +kernel
theorem dX5_set_39 : decode cX5_set 39 = .ok (.aload_n 0, 1) := by decide +kernel
theorem dX5_set_40 : decode cX5_set 40 = .ok (.getfield 7, 3) := by decide +kernel
theorem dX5_set_43 : decode cX5_set 43 = .ok (.bipush 6, 2) := by decide +kernel
