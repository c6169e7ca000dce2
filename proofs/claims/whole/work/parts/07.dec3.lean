theorem dX6_init_0 : decode cX6_init 0 = .ok (.aload_n 0, 1) := by decide +kernel
theorem dX6_init_1 : decode cX6_init 1 = .ok (.invokespecial 1, 3) := by decide +kernel
theorem dX6_init_4 : decode cX6_init 4 = .ok (.aload_n 0, 1) := by decide +kernel
theorem dX6_init_5 : decode cX6_init 5 = .ok (.sipush 444, 3) := by decide +kernel
theorem dX6_init_8 : decode cX6_init 8 = .ok (.newarray .int, 2) := by decide +kernel
theorem dX6_init_10 : decode cX6_init 10 = .ok (.putfield 7, 3) := by decide +kernel
theorem dX6_init_13 : decode cX6_init 13 = .ok (.aload_n 0, 1) := by decide +kernel
theorem dX6_init_14 : decode cX6_init 14 = .ok (.sipush 1776, 3) := by decide +kernel
theorem dX6_init_17 : decode cX6_init 17 = .ok (.newarray .int, 2) := by decide +kernel
theorem dX6_init_19 : decode cX6_init 19 = .ok (.putfield 13, 3) := by decide +kernel
theorem dX6_init_22 : decode cX6_init 22 = .ok (.aload_n 0, 1) := by decide +kernel
theorem dX6_init_23 : decode cX6_init 23 = .ok (.sipush 444, 3) := by decide +kernel
theorem dX6_init_26 : decode cX6_init 26 = .ok (.newarray .int, 2) := by decide +kernel
theorem dX6_init_28 : decode cX6_init 28 = .ok (.putfield 16, 3) := by decide +kernel
theorem dX6_init_31 : decode cX6_init 31 = .ok (.aload_n 0, 1) := by decide +kernel
theorem dX6_init_32 : decode cX6_init 32 = .ok (.sipush 444, 3) := by decide +kernel
theorem dX6_init_35 : decode cX6_init 35 = .ok (.newarray .int, 2) := by decide +kernel
theorem dX6_init_37 : decode cX6_init 37 = .ok (.putfield 19, 3) := by decide +kernel
theorem dX6_init_40 : decode cX6_init 40 = .ok (.aload_n 0, 1) := by decide +kernel
theorem dX6_init_41 : decode cX6_init 41 = .ok (.bipush 60, 2) := by decide +kernel
theorem dX6_init_43 : decode cX6_init 43 = .ok (.newarray .char, 2) := by decide +kernel
theorem dX6_init_45 : decode cX6_init 45 = .ok (.putfield 22, 3) := by decide +kernel
theorem dX6_init_48 : decode cX6_init 48 = .ok (.aload_n 0, 1) := by decide +kernel
theorem dX6_init_49 : decode cX6_init 49 = .ok (.bipush 8, 2) := by decide +kernel
theorem dX6_init_51 : decode cX6_init 51 = .ok (.newarray .int, 2) := by decide +kernel
theorem dX6_init_53 : decode cX6_init 53 = .ok (.putfield 26, 3) := by decide +kernel
theorem dX6_init_56 : decode cX6_init 56 = .ok (.aload_n 0, 1) := by decide +kernel
theorem dX6_init_57 : decode cX6_init 57 = .ok (.getfield 7, 3) := by decide +kernel
theorem dX6_init_60 : decode cX6_init 60 = .ok (.iconst 2, 1) := by decide +kernel
theorem dX6_init_61 : decode cX6_init 61 = .ok (.bipush 7, 2) := by decide +kernel
theorem dX6_init_63 : decode cX6_init 63 = .ok (.iastore, 1) := by decide +kernel
theorem dX6_init_64 : decode cX6_init 64 = .ok (.aload_n 0, 1) := by decide +kernel
theorem dX6_init_65 : decode cX6_init 65 = .ok (.getfield 7, 3) := by decide +kernel
theorem dX6_init_68 : decode cX6_init 68 = .ok (.iconst 4, 1) := by decide +kernel
theorem dX6_init_69 : decode cX6_init 69 = .ok (.bipush (-5), 2) := by decide +kernel
theorem dX6_init_71 : decode cX6_init 71 = .ok (.iastore, 1) := by decide +kernel
theorem dX6_init_72 : decode cX6_init 72 = .ok (.iconst 0, 1) := by decide +kernel
theorem dX6_init_73 : decode cX6_init 73 = .ok (.istore_n 1, 1) := by decide +kernel
theorem dX6_init_74 : decode cX6_init 74 = .ok (.iload_n 1, 1) := by decide +kernel
theorem dX6_init_75 : decode cX6_init 75 = .ok (.bipush 56, 2) := by decide +kernel
theorem dX6_init_77 : decode cX6_init 77 = .ok (.if_icmp .ge 20, 3) := by decide +kernel
theorem dX6_init_80 : decode cX6_init 80 = .ok (.aload_n 0, 1) := by decide +kernel
theorem dX6_init_81 : decode cX6_init 81 = .ok (.getfield 7, 3) := by decide +kernel
theorem dX6_init_84 : decode cX6_init 84 = .ok (.bipush 21, 2) := by decide +kernel
theorem dX6_init_86 : decode cX6_init 86 = .ok (.iload_n 1, 1) := by decide +kernel
theorem dX6_init_87 : decode cX6_init 87 = .ok (.iadd, 1) := by decide +kernel
theorem dX6_init_88 : decode cX6_init 88 = .ok (.bipush 100, 2) := by decide +kernel
theorem dX6_init_90 : decode cX6_init 90 = .ok (.iastore, 1) := by decide +kernel
theorem dX6_init_91 : decode cX6_init 91 = .ok (.iinc 1 1, 3) := by decide +kernel
theorem dX6_init_94 : decode cX6_init 94 = .ok (.goto (-20), 3) := by decide +kernel
theorem dX6_init_97 : decode cX6_init 97 = .ok (.return_, 1) := by decide +kernel
theorem dX6_in_0 : decode cX6_in 0 = .ok (.iload_n 0, 1) := by decide +kernel
theorem dX6_in_1 : decode cX6_in 1 = .ok (.iload_n 1, 1) := by decide +kernel
theorem dX6_in_2 : decode cX6_in 2 = .ok (.if_icmp .lt 12, 3) := by decide +kernel
theorem dX6_in_5 : decode cX6_in 5 = .ok (.iload_n 0, 1) := by decide +kernel
theorem dX6_in_6 : decode cX6_in 6 = .ok (.iload_n 2, 1) := by decide +kernel
theorem dX6_in_7 : decode cX6_in 7 = .ok (.if_icmp .gt 7, 3) := by decide +kernel
theorem dX6_in_10 : decode cX6_in 10 = .ok (.iconst 1, 1) := by decide +kernel
theorem dX6_in_11 : decode cX6_in 11 = .ok (.goto 4, 3) := by decide +kernel
theorem dX6_in_14 : decode cX6_in 14 = .ok (.iconst 0, 1) := by decide +kernel
theorem dX6_in_15 : decode cX6_in 15 = .ok (.ireturn, 1) := by decide +kernel
theorem dX6_isIn_0 : decode cX6_isIn 0 = .ok (.iload_n 0, 1) := by decide +kernel
theorem dX6_isIn_1 : decode cX6_isIn 1 = .ok (.iload_n 1, 1) := by decide +kernel
theorem dX6_isIn_2 : decode cX6_isIn 2 = .ok (.ishr, 1) := by decide +kernel
theorem dX6_isIn_3 : decode cX6_isIn 3 = .ok (.iconst 1, 1) := by decide +kernel
theorem dX6_isIn_4 : decode cX6_isIn 4 = .ok (.iand, 1) := by decide +kernel
theorem dX6_isIn_5 : decode cX6_isIn 5 = .ok (.iconst 1, 1) := by decide +kernel
theorem dX6_isIn_6 : decode cX6_isIn 6 = .ok (.if_icmp .ne 7, 3) := by decide +kernel
theorem dX6_isIn_9 : decode cX6_isIn 9 = .ok (.iconst 1, 1) := by decide +kernel
theorem dX6_isIn_10 : decode cX6_isIn 10 = .ok (.goto 4, 3) := by decide +kernel
theorem dX6_isIn_13 : decode cX6_isIn 13 = .ok (.iconst 0, 1) := by decide +kernel
theorem dX6_isIn_14 : decode cX6_isIn 14 = .ok (.ireturn, 1) := by decide +kernel
theorem dX6_many_0 : decode cX6_many 0 = .ok (.iconst 0, 1) := by decide +kernel
theorem dX6_many_1 : decode cX6_many 1 = .ok (.istore_n 1, 1) := by decide +kernel
theorem dX6_many_2 : decode cX6_many 2 = .ok (.iconst 0, 1) := by decide +kernel
theorem dX6_many_3 : decode cX6_many 3 = .ok (.istore_n 2, 1) := by decide +kernel
theorem dX6_many_4 : decode cX6_many 4 = .ok (.iload_n 2, 1) := by decide +kernel
theorem dX6_many_5 : decode cX6_many 5 = .ok (.bipush 7, 2) := by decide +kernel
theorem dX6_many_7 : decode cX6_many 7 = .ok (.if_icmp .ge 17, 3) := by decide +kernel
theorem dX6_many_10 : decode cX6_many 10 = .ok (.iload_n 1, 1) := by decide +kernel
theorem dX6_many_11 : decode cX6_many 11 = .ok (.iload_n 0, 1) := by decide +kernel
theorem dX6_many_12 : decode cX6_many 12 = .ok (.iload_n 2, 1) := by decide +kernel
theorem dX6_many_13 : decode cX6_many 13 = .ok (.ishr, 1) := by decide +kernel
theorem dX6_many_14 : decode cX6_many 14 = .ok (.iconst 1, 1) := by decide +kernel
theorem dX6_many_15 : decode cX6_many 15 = .ok (.iand, 1) := by decide +kernel
theorem dX6_many_16 : decode cX6_many 16 = .ok (.iadd, 1) := by decide +kernel
theorem dX6_many_17 : decode cX6_many 17 = .ok (.istore_n 1, 1) := by decide +kernel
theorem dX6_many_18 : decode cX6_many 18 = .ok (.iinc 2 1, 3) := by decide +kernel
theorem dX6_many_21 : decode cX6_many 21 = .ok (.goto (-17), 3) := by decide +kernel
theorem dX6_many_24 : decode cX6_many 24 = .ok (.iload_n 1, 1) := by decide +kernel
theorem dX6_many_25 : decode cX6_many 25 = .ok (.ireturn, 1) := by decide +kernel
theorem dX6_remember_0 : decode cX6_remember 0 = .ok (.iconst 0, 1) := by decide +kernel
theorem dX6_remember_1 : decode cX6_remember 1 = .ok (.istore_n 1, 1) := by decide +kernel
theorem dX6_remember_2 : decode cX6_remember 2 = .ok (.iload_n 1, 1) := by decide +kernel
theorem dX6_remember_3 : decode cX6_remember 3 = .ok (.sipush 444, 3) := by decide +kernel
theorem dX6_remember_6 : decode cX6_remember 6 = .ok (.if_icmp .ge 21, 3) := by decide +kernel
theorem dX6_remember_9 : decode cX6_remember 9 = .ok (.aload_n 0, 1) := by decide +kernel
theorem dX6_remember_10 : decode cX6_remember 10 = .ok (.getfield 19, 3) := by decide +kernel
theorem dX6_remember_13 : decode cX6_remember 13 = .ok (.iload_n 1, 1) := by decide +kernel
theorem dX6_remember_14 : decode cX6_remember 14 = .ok (.aload_n 0, 1) := by decide +kernel
theorem dX6_remember_15 : decode cX6_remember 15 = .ok (.getfield 7, 3) := by decide +kernel
theorem dX6_remember_18 : decode cX6_remember 18 = .ok (.iload_n 1, 1) := by decide +kernel
theorem dX6_remember_19 : decode cX6_remember 19 = .ok (.iaload, 1) := by decide +kernel
theorem dX6_remember_20 : decode cX6_remember 20 = .ok (.iastore, 1) := by decide +kernel
theorem dX6_remember_21 : decode cX6_remember 21 = .ok (.iinc 1 1, 3) := by decide +kernel
theorem dX6_remember_24 : decode cX6_remember 24 = .ok (.goto (-22), 3) := by decide +kernel
theorem dX6_remember_27 : decode cX6_remember 27 = .ok (.return_, 1) := by decide +kernel
theorem dX6_goBack_0 : decode cX6_goBack 0 = .ok (.iconst 0, 1) := by decide +kernel
theorem dX6_goBack_1 : decode cX6_goBack 1 = .ok (.istore_n 1, 1) := by decide +kernel
theorem dX6_goBack_2 : decode cX6_goBack 2 = .ok (.iload_n 1, 1) := by decide +kernel
theorem dX6_goBack_3 : decode cX6_goBack 3 = .ok (.sipush 444, 3) := by decide +kernel
theorem dX6_goBack_6 : decode cX6_goBack 6 = .ok (.if_icmp .ge 21, 3) := by decide +kernel
theorem dX6_goBack_9 : decode cX6_goBack 9 = .ok (.aload_n 0, 1) := by decide +kernel
theorem dX6_goBack_10 : decode cX6_goBack 10 = .ok (.getfield 7, 3) := by decide +kernel
theorem dX6_goBack_13 : decode cX6_goBack 13 = .ok (.iload_n 1, 1) := by decide +kernel
theorem dX6_goBack_14 : decode cX6_goBack 14 = .ok (.aload_n 0, 1) := by decide +kernel
theorem dX6_goBack_15 : decode cX6_goBack 15 = .ok (.getfield 19, 3) := by decide +kernel
theorem dX6_goBack_18 : decode cX6_goBack 18 = .ok (.iload_n 1, 1) := by decide +kernel
theorem dX6_goBack_19 : decode cX6_goBack 19 = .ok (.iaload, 1) := by decide +kernel
theorem dX6_goBack_20 : decode cX6_goBack 20 = .ok (.iastore, 1) := by decide +kernel
theorem dX6_goBack_21 : decode cX6_goBack 21 = .ok (.iinc 1 1, 3) := by decide +kernel
theorem dX6_goBack_24 : decode cX6_goBack 24 = .ok (.goto (-22), 3) := by decide +kernel
theorem dX6_goBack_27 : decode cX6_goBack 27 = .ok (.return_, 1) := by decide +kernel
theorem dX6_record_0 : decode cX6_record 0 = .ok (.aload_n 0, 1) := by decide +kernel
theorem dX6_record_1 : decode cX6_record 1 = .ok (.getfield 29, 3) := by decide +kernel
theorem dX6_record_4 : decode cX6_record 4 = .ok (.iconst 4, 1) := by decide +kernel
theorem dX6_record_5 : decode cX6_record 5 = .ok (.if_icmp .ne 44, 3) := by decide +kernel
theorem dX6_record_8 : decode cX6_record 8 = .ok (.iconst 0, 1) := by decide +kernel
theorem dX6_record_9 : decode cX6_record 9 = .ok (.istore_n 1, 1) := by decide +kernel
theorem dX6_record_10 : decode cX6_record 10 = .ok (.iload_n 1, 1) := by decide +kernel
theorem dX6_record_11 : decode cX6_record 11 = .ok (.sipush 1332, 3) := by decide +kernel
theorem dX6_record_14 : decode cX6_record 14 = .ok (.if_icmp .ge 25, 3) := by decide +kernel
theorem dX6_record_17 : decode cX6_record 17 = .ok (.aload_n 0, 1) := by decide +kernel
theorem dX6_record_18 : decode cX6_record 18 = .ok (.getfield 13, 3) := by decide +kernel
theorem dX6_record_21 : decode cX6_record 21 = .ok (.iload_n 1, 1) := by decide +kernel
theorem dX6_record_22 : decode cX6_record 22 = .ok (.aload_n 0, 1) := by decide +kernel
theorem dX6_record_23 : decode cX6_record 23 = .ok (.getfield 13, 3) := by decide +kernel
theorem dX6_record_26 : decode cX6_record 26 = .ok (.sipush 444, 3) := by decide +kernel
theorem dX6_record_29 : decode cX6_record 29 = .ok (.iload_n 1, 1) := by decide +kernel
theorem dX6_record_30 : decode cX6_record 30 = .ok (.iadd, 1) := by decide +kernel
theorem dX6_record_31 : decode cX6_record 31 = .ok (.iaload, 1) := by decide +kernel
theorem dX6_record_32 : decode cX6_record 32 = .ok (.iastore, 1) := by decide +kernel
theorem dX6_record_33 : decode cX6_record 33 = .ok (.iinc 1 1, 3) := by decide +kernel
theorem dX6_record_36 : decode cX6_record 36 = .ok (.goto (-26), 3) := by decide +kernel
theorem dX6_record_39 : decode cX6_record 39 = .ok (.aload_n 0, 1) := by decide +kernel
theorem dX6_record_40 : decode cX6_record 40 = .ok (.dup, 1) := by decide +kernel
theorem dX6_record_41 : decode cX6_record 41 = .ok (.getfield 29, 3) := by decide +kernel
theorem dX6_record_44 : decode cX6_record 44 = .ok (.iconst 1, 1) := by decide +kernel
theorem dX6_record_45 : decode cX6_record 45 = .ok (.isub, 1) := by decide +kernel
theorem dX6_record_46 : decode cX6_record 46 = .ok (.putfield 29, 3) := by decide +kernel
theorem dX6_record_49 : decode cX6_record 49 = .ok (.iconst 0, 1) := by decide +kernel
theorem dX6_record_50 : decode cX6_record 50 = .ok (.istore_n 1, 1) := by decide +kernel
theorem dX6_record_51 : decode cX6_record 51 = .ok (.iload_n 1, 1) := by decide +kernel
theorem dX6_record_52 : decode cX6_record 52 = .ok (.sipush 444, 3) := by decide +kernel
theorem dX6_record_55 : decode cX6_record 55 = .ok (.if_icmp .ge 30, 3) := by decide +kernel
theorem dX6_record_58 : decode cX6_record 58 = .ok (.aload_n 0, 1) := by decide +kernel
theorem dX6_record_59 : decode cX6_record 59 = .ok (.getfield 13, 3) := by decide +kernel
theorem dX6_record_62 : decode cX6_record 62 = .ok (.sipush 444, 3) := by decide +kernel
theorem dX6_record_65 : decode cX6_record 65 = .ok (.aload_n 0, 1) := by decide +kernel
theorem dX6_record_66 : decode cX6_record 66 = .ok (.getfield 29, 3) := by decide +kernel
theorem dX6_record_69 : decode cX6_record 69 = .ok (.imul, 1) := by decide +kernel
theorem dX6_record_70 : decode cX6_record 70 = .ok (.iload_n 1, 1) := by decide +kernel
theorem dX6_record_71 : decode cX6_record 71 = .ok (.iadd, 1) := by decide +kernel
theorem dX6_record_72 : decode cX6_record 72 = .ok (.aload_n 0, 1) := by decide +kernel
theorem dX6_record_73 : decode cX6_record 73 = .ok (.getfield 19, 3) := by decide +kernel
theorem dX6_record_76 : decode cX6_record 76 = .ok (.iload_n 1, 1) := by decide +kernel
theorem dX6_record_77 : decode cX6_record 77 = .ok (.iaload, 1) := by decide +kernel
theorem dX6_record_78 : decode cX6_record 78 = .ok (.iastore, 1) := by decide +kernel
theorem dX6_record_79 : decode cX6_record 79 = .ok (.iinc 1 1, 3) := by decide +kernel
theorem dX6_record_82 : decode cX6_record 82 = .ok (.goto (-31), 3) := by decide +kernel
theorem dX6_record_85 : decode cX6_record 85 = .ok (.aload_n 0, 1) := by decide +kernel
theorem dX6_record_86 : decode cX6_record 86 = .ok (.dup, 1) := by decide +kernel
theorem dX6_record_87 : decode cX6_record 87 = .ok (.getfield 29, 3) := by decide +kernel
theorem dX6_record_90 : decode cX6_record 90 = .ok (.iconst 1, 1) := by decide +kernel
theorem dX6_record_91 : decode cX6_record 91 = .ok (.iadd, 1) := by decide +kernel
theorem dX6_record_92 : decode cX6_record 92 = .ok (.putfield 29, 3) := by decide +kernel
theorem dX6_record_95 : decode cX6_record 95 = .ok (.return_, 1) := by decide +kernel
theorem dX6_begin_0 : decode cX6_begin 0 = .ok (.aload_n 0, 1) := by decide +kernel
theorem dX6_begin_1 : decode cX6_begin 1 = .ok (.invokevirtual 33, 3) := by decide +kernel
theorem dX6_begin_4 : decode cX6_begin 4 = .ok (.aload_n 0, 1) := by decide +kernel
theorem dX6_begin_5 : decode cX6_begin 5 = .ok (.invokevirtual 36, 3) := by decide +kernel
theorem dX6_begin_8 : decode cX6_begin 8 = .ok (.return_, 1) := by decide +kernel
theorem dX6_undo_0 : decode cX6_undo 0 = .ok (.aload_n 0, 1) := by decide +kernel
theorem dX6_undo_1 : decode cX6_undo 1 = .ok (.getfield 29, 3) := by decide +kernel
theorem dX6_undo_4 : decode cX6_undo 4 = .ok (.ifCond .ne 6, 3) := by decide +kernel
theorem dX6_undo_7 : decode cX6_undo 7 = .ok (.bipush (-5), 2) := by decide +kernel
theorem dX6_undo_9 : decode cX6_undo 9 = .ok (.ireturn, 1) := by decide +kernel
theorem dX6_undo_10 : decode cX6_undo 10 = .ok (.aload_n 0, 1) := by decide +kernel
theorem dX6_undo_11 : decode cX6_undo 11 = .ok (.dup, 1) := by decide +kernel
theorem dX6_undo_12 : decode cX6_undo 12 = .ok (.getfield 29, 3) := by decide +kernel
theorem dX6_undo_15 : decode cX6_undo 15 = .ok (.iconst 1, 1) := by decide +kernel
theorem dX6_undo_16 : decode cX6_undo 16 = .ok (.isub, 1) := by decide +kernel
theorem dX6_undo_17 : decode cX6_undo 17 = .ok (.putfield 29, 3) := by decide +kernel
theorem dX6_undo_20 : decode cX6_undo 20 = .ok (.iconst 0, 1) := by decide +kernel
theorem dX6_undo_21 : decode cX6_undo 21 = .ok (.istore_n 1, 1) := by decide +kernel
theorem dX6_undo_22 : decode cX6_undo 22 = .ok (.iload_n 1, 1) := by decide +kernel
theorem dX6_undo_23 : decode cX6_undo 23 = .ok (.sipush 444, 3) := by decide +kernel
theorem dX6_undo_26 : decode cX6_undo 26 = .ok (.if_icmp .ge 30, 3) := by decide +kernel
theorem dX6_undo_29 : decode cX6_undo 29 = .ok (.aload_n 0, 1) := by decide +kernel
theorem dX6_undo_30 : decode cX6_undo 30 = .ok (.getfield 7, 3) := by decide +kernel
theorem dX6_undo_33 : decode cX6_undo 33 = .ok (.iload_n 1, 1) := by decide +kernel
theorem dX6_undo_34 : decode cX6_undo 34 = .ok (.aload_n 0, 1) := by decide +kernel
theorem dX6_undo_35 : decode cX6_undo 35 = .ok (.getfield 13, 3) := by decide +kernel
theorem dX6_undo_38 : decode cX6_undo 38 = .ok (.sipush 444, 3) := by decide +kernel
theorem dX6_undo_41 : decode cX6_undo 41 = .ok (.aload_n 0, 1) := by decide +kernel
theorem dX6_undo_42 : decode cX6_undo 42 = .ok (.getfield 29, 3) := by decide +kernel
theorem dX6_undo_45 : decode cX6_undo 45 = .ok (.imul, 1) := by decide +kernel
theorem dX6_undo_46 : decode cX6_undo 46 = .ok (.iload_n 1, 1) := by decide +kernel
theorem dX6_undo_47 : decode cX6_undo 47 = .ok (.iadd, 1) := by decide +kernel
theorem dX6_undo_48 : decode cX6_undo 48 = .ok (.iaload, 1) := by decide +kernel
theorem dX6_undo_49 : decode cX6_undo 49 = .ok (.iastore, 1) := by decide +kernel
theorem dX6_undo_50 : decode cX6_undo 50 = .ok (.iinc 1 1, 3) := by decide +kernel
theorem dX6_undo_53 : decode cX6_undo 53 = .ok (.goto (-31), 3) := by decide +kernel
theorem dX6_undo_56 : decode cX6_undo 56 = .ok (.aload_n 0, 1) := by decide +kernel
theorem dX6_undo_57 : decode cX6_undo 57 = .ok (.getfield 29, 3) := by decide +kernel
theorem dX6_undo_60 : decode cX6_undo 60 = .ok (.ireturn, 1) := by decide +kernel
theorem dX6_keep_0 : decode cX6_keep 0 = .ok (.iconst 0, 1) := by decide +kernel
theorem dX6_keep_1 : decode cX6_keep 1 = .ok (.istore_n 1, 1) := by decide +kernel
theorem dX6_keep_2 : decode cX6_keep 2 = .ok (.iload_n 1, 1) := by decide +kernel
theorem dX6_keep_3 : decode cX6_keep 3 = .ok (.sipush 444, 3) := by decide +kernel
theorem dX6_keep_6 : decode cX6_keep 6 = .ok (.if_icmp .ge 21, 3) := by decide +kernel
theorem dX6_keep_9 : decode cX6_keep 9 = .ok (.aload_n 0, 1) := by decide +kernel
theorem dX6_keep_10 : decode cX6_keep 10 = .ok (.getfield 16, 3) := by decide +kernel
theorem dX6_keep_13 : decode cX6_keep 13 = .ok (.iload_n 1, 1) := by decide +kernel
theorem dX6_keep_14 : decode cX6_keep 14 = .ok (.aload_n 0, 1) := by decide +kernel
theorem dX6_keep_15 : decode cX6_keep 15 = .ok (.getfield 7, 3) := by decide +kernel
theorem dX6_keep_18 : decode cX6_keep 18 = .ok (.iload_n 1, 1) := by decide +kernel
theorem dX6_keep_19 : decode cX6_keep 19 = .ok (.iaload, 1) := by decide +kernel
theorem dX6_keep_20 : decode cX6_keep 20 = .ok (.iastore, 1) := by decide +kernel
theorem dX6_keep_21 : decode cX6_keep 21 = .ok (.iinc 1 1, 3) := by decide +kernel
theorem dX6_keep_24 : decode cX6_keep 24 = .ok (.goto (-22), 3) := by decide +kernel
theorem dX6_keep_27 : decode cX6_keep 27 = .ok (.aload_n 0, 1) := by decide +kernel
theorem dX6_keep_28 : decode cX6_keep 28 = .ok (.iconst 1, 1) := by decide +kernel
theorem dX6_keep_29 : decode cX6_keep 29 = .ok (.putfield 39, 3) := by decide +kernel
theorem dX6_keep_32 : decode cX6_keep 32 = .ok (.aload_n 0, 1) := by decide +kernel
theorem dX6_keep_33 : decode cX6_keep 33 = .ok (.getfield 7, 3) := by decide +kernel
theorem dX6_keep_36 : decode cX6_keep 36 = .ok (.iconst 3, 1) := by decide +kernel
theorem dX6_keep_37 : decode cX6_keep 37 = .ok (.iaload, 1) := by decide +kernel
theorem dX6_keep_38 : decode cX6_keep 38 = .ok (.ireturn, 1) := by decide +kernel
theorem dX6_restore_0 : decode cX6_restore 0 = .ok (.aload_n 0, 1) := by decide +kernel
theorem dX6_restore_1 : decode cX6_restore 1 = .ok (.getfield 39, 3) := by decide +kernel
theorem dX6_restore_4 : decode cX6_restore 4 = .ok (.ifCond .ne 6, 3) := by decide +kernel
theorem dX6_restore_7 : decode cX6_restore 7 = .ok (.bipush (-5), 2) := by decide +kernel
theorem dX6_restore_9 : decode cX6_restore 9 = .ok (.ireturn, 1) := by decide +kernel
theorem dX6_restore_10 : decode cX6_restore 10 = .ok (.aload_n 0, 1) := by decide +kernel
theorem dX6_restore_11 : decode cX6_restore 11 = .ok (.invokevirtual 43, 3) := by decide +kernel
theorem dX6_restore_14 : decode cX6_restore 14 = .ok (.iconst 0, 1) := by decide +kernel
theorem dX6_restore_15 : decode cX6_restore 15 = .ok (.istore_n 1, 1) := by decide +kernel
theorem dX6_restore_16 : decode cX6_restore 16 = .ok (.iload_n 1, 1) := by decide +kernel
theorem dX6_restore_17 : decode cX6_restore 17 = .ok (.sipush 444, 3) := by decide +kernel
theorem dX6_restore_20 : decode cX6_restore 20 = .ok (.if_icmp .ge 21, 3) := by decide +kernel
theorem dX6_restore_23 : decode cX6_restore 23 = .ok (.aload_n 0, 1) := by decide +kernel
theorem dX6_restore_24 : decode cX6_restore 24 = .ok (.getfield 7, 3) := by decide +kernel
theorem dX6_restore_27 : decode cX6_restore 27 = .ok (.iload_n 1, 1) := by decide +kernel
theorem dX6_restore_28 : decode cX6_restore 28 = .ok (.aload_n 0, 1) := by decide +kernel
theorem dX6_restore_29 : decode cX6_restore 29 = .ok (.getfield 16, 3) := by decide +kernel
theorem dX6_restore_32 : decode cX6_restore 32 = .ok (.iload_n 1, 1) := by decide +kernel
theorem dX6_restore_33 : decode cX6_restore 33 = .ok (.iaload, 1) := by decide +kernel
theorem dX6_restore_34 : decode cX6_restore 34 = .ok (.iastore, 1) := by decide +kernel
theorem dX6_restore_35 : decode cX6_restore 35 = .ok (.iinc 1 1, 3) := by decide +kernel
theorem dX6_restore_38 : decode cX6_restore 38 = .ok (.goto (-22), 3) := by decide +kernel
theorem dX6_restore_41 : decode cX6_restore 41 = .ok (.aload_n 0, 1) := by decide +kernel
theorem dX6_restore_42 : decode cX6_restore 42 = .ok (.getfield 7, 3) := by decide +kernel
theorem dX6_restore_45 : decode cX6_restore 45 = .ok (.iconst 3, 1) := by decide +kernel
theorem dX6_restore_46 : decode cX6_restore 46 = .ok (.iaload, 1) := by decide +kernel
theorem dX6_restore_47 : decode cX6_restore 47 = .ok (.ireturn, 1) := by decide +kernel
theorem dX6_noSite_0 : decode cX6_noSite 0 = .ok (.iload_n 1, 1) := by decide +kernel
theorem dX6_noSite_1 : decode cX6_noSite 1 = .ok (.iconst 0, 1) := by decide +kernel
theorem dX6_noSite_2 : decode cX6_noSite 2 = .ok (.aload_n 0, 1) := by decide +kernel
theorem dX6_noSite_3 : decode cX6_noSite 3 = .ok (.getfield 7, 3) := by decide +kernel
theorem dX6_noSite_6 : decode cX6_noSite 6 = .ok (.iconst 0, 1) := by decide +kernel
theorem dX6_noSite_7 : decode cX6_noSite 7 = .ok (.iaload, 1) := by decide +kernel
theorem dX6_noSite_8 : decode cX6_noSite 8 = .ok (.iconst 1, 1) := by decide +kernel
theorem dX6_noSite_9 : decode cX6_noSite 9 = .ok (.isub, 1) := by decide +kernel
theorem dX6_noSite_10 : decode cX6_noSite 10 = .ok (.invokestatic 46, 3) := by decide +kernel
theorem dX6_noSite_13 : decode cX6_noSite 13 = .ok (.ifCond .ne 7, 3) := by decide +kernel
theorem dX6_noSite_16 : decode cX6_noSite 16 = .ok (.iconst 1, 1) := by decide +kernel
theorem dX6_noSite_17 : decode cX6_noSite 17 = .ok (.goto 4, 3) := by decide +kernel
theorem dX6_noSite_20 : decode cX6_noSite 20 = .ok (.iconst 0, 1) := by decide +kernel
theorem dX6_noSite_21 : decode cX6_noSite 21 = .ok (.ireturn, 1) := by decide +kernel
theorem dX6_noCustomer_0 : decode cX6_noCustomer 0 = .ok (.iload_n 1, 1) := by decide +kernel
theorem dX6_noCustomer_1 : decode cX6_noCustomer 1 = .ok (.iconst 0, 1) := by decide +kernel
theorem dX6_noCustomer_2 : decode cX6_noCustomer 2 = .ok (.aload_n 0, 1) := by decide +kernel
theorem dX6_noCustomer_3 : decode cX6_noCustomer 3 = .ok (.getfield 7, 3) := by decide +kernel
theorem dX6_noCustomer_6 : decode cX6_noCustomer 6 = .ok (.iconst 1, 1) := by decide +kernel
theorem dX6_noCustomer_7 : decode cX6_noCustomer 7 = .ok (.iaload, 1) := by decide +kernel
theorem dX6_noCustomer_8 : decode cX6_noCustomer 8 = .ok (.iconst 1, 1) := by decide +kernel
theorem dX6_noCustomer_9 : decode cX6_noCustomer 9 = .ok (.isub, 1) := by decide +kernel
theorem dX6_noCustomer_10 : decode cX6_noCustomer 10 = .ok (.invokestatic 46, 3) := by decide +kernel
theorem dX6_noCustomer_13 : decode cX6_noCustomer 13 = .ok (.ifCond .ne 7, 3) := by decide +kernel
theorem dX6_noCustomer_16 : decode cX6_noCustomer 16 = .ok (.iconst 1, 1) := by decide +kernel
theorem dX6_noCustomer_17 : decode cX6_noCustomer 17 = .ok (.goto 4, 3) := by decide +kernel
theorem dX6_noCustomer_20 : decode cX6_noCustomer 20 = .ok (.iconst 0, 1) := by decide +kernel
theorem dX6_noCustomer_21 : decode cX6_noCustomer 21 = .ok (.ireturn, 1) := by decide +kernel
theorem dX6_route_0 : decode cX6_route 0 = .ok (.bipush 21, 2) := by decide +kernel
theorem dX6_route_2 : decode cX6_route 2 = .ok (.bipush 8, 2) := by decide +kernel
theorem dX6_route_4 : decode cX6_route 4 = .ok (.iload_n 0, 1) := by decide +kernel
theorem dX6_route_5 : decode cX6_route 5 = .ok (.imul, 1) := by decide +kernel
theorem dX6_route_6 : decode cX6_route 6 = .ok (.iadd, 1) := by decide +kernel
theorem dX6_route_7 : decode cX6_route 7 = .ok (.iload_n 1, 1) := by decide +kernel
theorem dX6_route_8 : decode cX6_route 8 = .ok (.iadd, 1) := by decide +kernel
theorem dX6_route_9 : decode cX6_route 9 = .ok (.ireturn, 1) := by decide +kernel
theorem dX6_dropAll_0 : decode cX6_dropAll 0 = .ok (.aload_n 0, 1) := by decide +kernel
theorem dX6_dropAll_1 : decode cX6_dropAll 1 = .ok (.getfield 7, 3) := by decide +kernel
theorem dX6_dropAll_4 : decode cX6_dropAll 4 = .ok (.iconst 3, 1) := by decide +kernel
theorem dX6_dropAll_5 : decode cX6_dropAll 5 = .ok (.iconst 0, 1) := by decide +kernel
theorem dX6_dropAll_6 : decode cX6_dropAll 6 = .ok (.iastore, 1) := by decide +kernel
theorem dX6_dropAll_7 : decode cX6_dropAll 7 = .ok (.aload_n 0, 1) := by decide +kernel
theorem dX6_dropAll_8 : decode cX6_dropAll 8 = .ok (.getfield 7, 3) := by decide +kernel
theorem dX6_dropAll_11 : decode cX6_dropAll 11 = .ok (.iconst 4, 1) := by decide +kernel
theorem dX6_dropAll_12 : decode cX6_dropAll 12 = .ok (.bipush (-5), 2) := by decide +kernel
theorem dX6_dropAll_14 : decode cX6_dropAll 14 = .ok (.iastore, 1) := by decide +kernel
theorem dX6_dropAll_15 : decode cX6_dropAll 15 = .ok (.bipush 84, 2) := by decide +kernel
theorem dX6_dropAll_17 : decode cX6_dropAll 17 = .ok (.istore_n 1, 1) := by decide +kernel
theorem dX6_dropAll_18 : decode cX6_dropAll 18 = .ok (.iload_n 1, 1) := by decide +kernel
theorem dX6_dropAll_19 : decode cX6_dropAll 19 = .ok (.sipush 444, 3) := by decide +kernel
theorem dX6_dropAll_22 : decode cX6_dropAll 22 = .ok (.if_icmp .ge 16, 3) := by decide +kernel
theorem dX6_dropAll_25 : decode cX6_dropAll 25 = .ok (.aload_n 0, 1) := by decide +kernel
theorem dX6_dropAll_26 : decode cX6_dropAll 26 = .ok (.getfield 7, 3) := by decide +kernel
theorem dX6_dropAll_29 : decode cX6_dropAll 29 = .ok (.iload_n 1, 1) := by decide +kernel
theorem dX6_dropAll_30 : decode cX6_dropAll 30 = .ok (.iconst 0, 1) := by decide +kernel
theorem dX6_dropAll_31 : decode cX6_dropAll 31 = .ok (.iastore, 1) := by decide +kernel
theorem dX6_dropAll_32 : decode cX6_dropAll 32 = .ok (.iinc 1 1, 3) := by decide +kernel
theorem dX6_dropAll_35 : decode cX6_dropAll 35 = .ok (.goto (-17), 3) := by decide +kernel
theorem dX6_dropAll_38 : decode cX6_dropAll 38 = .ok (.return_, 1) := by decide +kernel
theorem dX6_addSite_0 : decode cX6_addSite 0 = .ok (.iload_n 1, 1) := by decide +kernel
theorem dX6_addSite_1 : decode cX6_addSite 1 = .ok (.iconst 0, 1) := by decide +kernel
theorem dX6_addSite_2 : decode cX6_addSite 2 = .ok (.sipush 999, 3) := by decide +kernel
theorem dX6_addSite_5 : decode cX6_addSite 5 = .ok (.invokestatic 46, 3) := by decide +kernel
theorem dX6_addSite_8 : decode cX6_addSite 8 = .ok (.ifCond .ne 6, 3) := by decide +kernel
theorem dX6_addSite_11 : decode cX6_addSite 11 = .ok (.bipush (-2), 2) := by decide +kernel
theorem dX6_addSite_13 : decode cX6_addSite 13 = .ok (.ireturn, 1) := by decide +kernel
theorem dX6_addSite_14 : decode cX6_addSite 14 = .ok (.aload_n 0, 1) := by decide +kernel
theorem dX6_addSite_15 : decode cX6_addSite 15 = .ok (.getfield 7, 3) := by decide +kernel
theorem dX6_addSite_18 : decode cX6_addSite 18 = .ok (.iconst 0, 1) := by decide +kernel
theorem dX6_addSite_19 : decode cX6_addSite 19 = .ok (.iaload, 1) := by decide +kernel
theorem dX6_addSite_20 : decode cX6_addSite 20 = .ok (.istore_n 2, 1) := by decide +kernel
theorem dX6_addSite_21 : decode cX6_addSite 21 = .ok (.iload_n 2, 1) := by decide +kernel
theorem dX6_addSite_22 : decode cX6_addSite 22 = .ok (.bipush 7, 2) := by decide +kernel
theorem dX6_addSite_24 : decode cX6_addSite 24 = .ok (.if_icmp .ne 6, 3) := by decide +kernel
theorem dX6_addSite_27 : decode cX6_addSite 27 = .ok (.bipush (-3), 2) := by decide +kernel
theorem dX6_addSite_29 : decode cX6_addSite 29 = .ok (.ireturn, 1) := by decide +kernel
theorem dX6_addSite_30 : decode cX6_addSite 30 = .ok (.aload_n 0, 1) := by decide +kernel
theorem dX6_addSite_31 : decode cX6_addSite 31 = .ok (.invokevirtual 43, 3) := by decide +kernel
theorem dX6_addSite_34 : decode cX6_addSite 34 = .ok (.aload_n 0, 1) := by decide +kernel
theorem dX6_addSite_35 : decode cX6_addSite 35 = .ok (.getfield 7, 3) := by decide +kernel
theorem dX6_addSite_38 : decode cX6_addSite 38 = .ok (.bipush 6, 2) := by decide +kernel
theorem dX6_addSite_40 : decode cX6_addSite 40 = .ok (.iload_n 2, 1) := by decide +kernel
theorem dX6_addSite_41 : decode cX6_addSite 41 = .ok (.iadd, 1) := by decide +kernel
theorem dX6_addSite_42 : decode cX6_addSite 42 = .ok (.iload_n 1, 1) := by decide +kernel
theorem dX6_addSite_43 : decode cX6_addSite 43 = .ok (.iastore, 1) := by decide +kernel
theorem dX6_addSite_44 : decode cX6_addSite 44 = .ok (.aload_n 0, 1) := by decide +kernel
theorem dX6_addSite_45 : decode cX6_addSite 45 = .ok (.getfield 7, 3) := by decide +kernel
theorem dX6_addSite_48 : decode cX6_addSite 48 = .ok (.iconst 0, 1) := by decide +kernel
theorem dX6_addSite_49 : decode cX6_addSite 49 = .ok (.dup2, 1) := by decide +kernel
theorem dX6_addSite_50 : decode cX6_addSite 50 = .ok (.iaload, 1) := by decide +kernel
theorem dX6_addSite_51 : decode cX6_addSite 51 = .ok (.iconst 1, 1) := by decide +kernel
theorem dX6_addSite_52 : decode cX6_addSite 52 = .ok (.iadd, 1) := by decide +kernel
theorem dX6_addSite_53 : decode cX6_addSite 53 = .ok (.iastore, 1) := by decide +kernel
theorem dX6_addSite_54 : decode cX6_addSite 54 = .ok (.aload_n 0, 1) := by decide +kernel
theorem dX6_addSite_55 : decode cX6_addSite 55 = .ok (.invokevirtual 50, 3) := by decide +kernel
theorem dX6_addSite_58 : decode cX6_addSite 58 = .ok (.iload_n 2, 1) := by decide +kernel
theorem dX6_addSite_59 : decode cX6_addSite 59 = .ok (.ireturn, 1) := by decide +kernel
theorem dX6_addCustomer_0 : decode cX6_addCustomer 0 = .ok (.iload_n 1, 1) := by decide +kernel
theorem dX6_addCustomer_1 : decode cX6_addCustomer 1 = .ok (.iconst 1, 1) := by decide +kernel
theorem dX6_addCustomer_2 : decode cX6_addCustomer 2 = .ok (.bipush 20, 2) := by decide +kernel
theorem dX6_addCustomer_4 : decode cX6_addCustomer 4 = .ok (.invokestatic 46, 3) := by decide +kernel
theorem dX6_addCustomer_7 : decode cX6_addCustomer 7 = .ok (.ifCond .ne 6, 3) := by decide +kernel
theorem dX6_addCustomer_10 : decode cX6_addCustomer 10 = .ok (.bipush (-2), 2) := by decide +kernel
theorem dX6_addCustomer_12 : decode cX6_addCustomer 12 = .ok (.ireturn, 1) := by decide +kernel
theorem dX6_addCustomer_13 : decode cX6_addCustomer 13 = .ok (.aload_n 0, 1) := by decide +kernel
theorem dX6_addCustomer_14 : decode cX6_addCustomer 14 = .ok (.getfield 7, 3) := by decide +kernel
theorem dX6_addCustomer_17 : decode cX6_addCustomer 17 = .ok (.iconst 1, 1) := by decide +kernel
theorem dX6_addCustomer_18 : decode cX6_addCustomer 18 = .ok (.iaload, 1) := by decide +kernel
theorem dX6_addCustomer_19 : decode cX6_addCustomer 19 = .ok (.istore_n 2, 1) := by decide +kernel
theorem dX6_addCustomer_20 : decode cX6_addCustomer 20 = .ok (.iload_n 2, 1) := by decide +kernel
theorem dX6_addCustomer_21 : decode cX6_addCustomer 21 = .ok (.bipush 8, 2) := by decide +kernel
theorem dX6_addCustomer_23 : decode cX6_addCustomer 23 = .ok (.if_icmp .ne 6, 3) := by decide +kernel
theorem dX6_addCustomer_26 : decode cX6_addCustomer 26 = .ok (.bipush (-3), 2) := by decide +kernel
theorem dX6_addCustomer_28 : decode cX6_addCustomer 28 = .ok (.ireturn, 1) := by decide +kernel
theorem dX6_addCustomer_29 : decode cX6_addCustomer 29 = .ok (.aload_n 0, 1) := by decide +kernel
theorem dX6_addCustomer_30 : decode cX6_addCustomer 30 = .ok (.invokevirtual 43, 3) := by decide +kernel
theorem dX6_addCustomer_33 : decode cX6_addCustomer 33 = .ok (.aload_n 0, 1) := by decide +kernel
theorem dX6_addCustomer_34 : decode cX6_addCustomer 34 = .ok (.getfield 7, 3) := by decide +kernel
theorem dX6_addCustomer_37 : decode cX6_addCustomer 37 = .ok (.bipush 13, 2) := by decide +kernel
theorem dX6_addCustomer_39 : decode cX6_addCustomer 39 = .ok (.iload_n 2, 1) := by decide +kernel
theorem dX6_addCustomer_40 : decode cX6_addCustomer 40 = .ok (.iadd, 1) := by decide +kernel
theorem dX6_addCustomer_41 : decode cX6_addCustomer 41 = .ok (.iload_n 1, 1) := by decide +kernel
theorem dX6_addCustomer_42 : decode cX6_addCustomer 42 = .ok (.iastore, 1) := by decide +kernel
theorem dX6_addCustomer_43 : decode cX6_addCustomer 43 = .ok (.aload_n 0, 1) := by decide +kernel
theorem dX6_addCustomer_44 : decode cX6_addCustomer 44 = .ok (.getfield 7, 3) := by decide +kernel
theorem dX6_addCustomer_47 : decode cX6_addCustomer 47 = .ok (.iconst 1, 1) := by decide +kernel
theorem dX6_addCustomer_48 : decode cX6_addCustomer 48 = .ok (.dup2, 1) := by decide +kernel
theorem dX6_addCustomer_49 : decode cX6_addCustomer 49 = .ok (.iaload, 1) := by decide +kernel
theorem dX6_addCustomer_50 : decode cX6_addCustomer 50 = .ok (.iconst 1, 1) := by decide +kernel
theorem dX6_addCustomer_51 : decode cX6_addCustomer 51 = .ok (.iadd, 1) := by decide +kernel
theorem dX6_addCustomer_52 : decode cX6_addCustomer 52 = .ok (.iastore, 1) := by decide +kernel
theorem dX6_addCustomer_53 : decode cX6_addCustomer 53 = .ok (.aload_n 0, 1) := by decide +kernel
theorem dX6_addCustomer_54 : decode cX6_addCustomer 54 = .ok (.invokevirtual 50, 3) := by decide +kernel
theorem dX6_addCustomer_57 : decode cX6_addCustomer 57 = .ok (.iload_n 2, 1) := by decide +kernel
theorem dX6_addCustomer_58 : decode cX6_addCustomer 58 = .ok (.ireturn, 1) := by decide +kernel
theorem dX6_change_0 : decode cX6_change 0 = .ok (.aload_n 0, 1) := by decide +kernel
theorem dX6_change_1 : decode cX6_change 1 = .ok (.getfield 7, 3) := by decide +kernel
theorem dX6_change_4 : decode cX6_change 4 = .ok (.iload_n 1, 1) := by decide +kernel
theorem dX6_change_5 : decode cX6_change 5 = .ok (.iaload, 1) := by decide +kernel
theorem dX6_change_6 : decode cX6_change 6 = .ok (.istore_n 3, 1) := by decide +kernel
theorem dX6_change_7 : decode cX6_change 7 = .ok (.iload_n 3, 1) := by decide +kernel
theorem dX6_change_8 : decode cX6_change 8 = .ok (.iload_n 2, 1) := by decide +kernel
theorem dX6_change_9 : decode cX6_change 9 = .ok (.if_icmp .ne 6, 3) := by decide +kernel
theorem dX6_change_12 : decode cX6_change 12 = .ok (.bipush (-5), 2) := by decide +kernel
theorem dX6_change_14 : decode cX6_change 14 = .ok (.ireturn, 1) := by decide +kernel
theorem dX6_change_15 : decode cX6_change 15 = .ok (.aload_n 0, 1) := by decide +kernel
theorem dX6_change_16 : decode cX6_change 16 = .ok (.invokevirtual 43, 3) := by decide +kernel
theorem dX6_change_19 : decode cX6_change 19 = .ok (.aload_n 0, 1) := by decide +kernel
theorem dX6_change_20 : decode cX6_change 20 = .ok (.getfield 7, 3) := by decide +kernel
theorem dX6_change_23 : decode cX6_change 23 = .ok (.iload_n 1, 1) := by decide +kernel
theorem dX6_change_24 : decode cX6_change 24 = .ok (.iload_n 2, 1) := by decide +kernel
theorem dX6_change_25 : decode cX6_change 25 = .ok (.iastore, 1) := by decide +kernel
theorem dX6_change_26 : decode cX6_change 26 = .ok (.aload_n 0, 1) := by decide +kernel
theorem dX6_change_27 : decode cX6_change 27 = .ok (.invokevirtual 50, 3) := by decide +kernel
theorem dX6_change_30 : decode cX6_change 30 = .ok (.iload_n 3, 1) := by decide +kernel
theorem dX6_change_31 : decode cX6_change 31 = .ok (.ireturn, 1) := by decide +kernel
theorem dX6_setPrice_0 : decode cX6_setPrice 0 = .ok (.aload_n 0, 1) := by decide +kernel
theorem dX6_setPrice_1 : decode cX6_setPrice 1 = .ok (.iload_n 1, 1) := by decide +kernel
theorem dX6_setPrice_2 : decode cX6_setPrice 2 = .ok (.invokevirtual 53, 3) := by decide +kernel
theorem dX6_setPrice_5 : decode cX6_setPrice 5 = .ok (.ifCond .eq 5, 3) := by decide +kernel
theorem dX6_setPrice_8 : decode cX6_setPrice 8 = .ok (.iconst (-1), 1) := by decide +kernel
theorem dX6_setPrice_9 : decode cX6_setPrice 9 = .ok (.ireturn, 1) := by decide +kernel
theorem dX6_setPrice_10 : decode cX6_setPrice 10 = .ok (.iload_n 2, 1) := by decide +kernel
theorem dX6_setPrice_11 : decode cX6_setPrice 11 = .ok (.iconst 0, 1) := by decide +kernel
theorem dX6_setPrice_12 : decode cX6_setPrice 12 = .ok (.sipush 999, 3) := by decide +kernel
theorem dX6_setPrice_15 : decode cX6_setPrice 15 = .ok (.invokestatic 46, 3) := by decide +kernel
theorem dX6_setPrice_18 : decode cX6_setPrice 18 = .ok (.ifCond .eq 15, 3) := by decide +kernel
theorem dX6_setPrice_21 : decode cX6_setPrice 21 = .ok (.aload_n 0, 1) := by decide +kernel
theorem dX6_setPrice_22 : decode cX6_setPrice 22 = .ok (.bipush 6, 2) := by decide +kernel
theorem dX6_setPrice_24 : decode cX6_setPrice 24 = .ok (.iload_n 1, 1) := by decide +kernel
theorem dX6_setPrice_25 : decode cX6_setPrice 25 = .ok (.iadd, 1) := by decide +kernel
theorem dX6_setPrice_26 : decode cX6_setPrice 26 = .ok (.iload_n 2, 1) := by decide +kernel
theorem dX6_setPrice_27 : decode cX6_setPrice 27 = .ok (.invokevirtual 57, 3) := by decide +kernel
theorem dX6_setPrice_30 : decode cX6_setPrice 30 = .ok (.goto 5, 3) := by decide +kernel
theorem dX6_setPrice_33 : decode cX6_setPrice 33 = .ok (.bipush (-2), 2) := by decide +kernel
theorem dX6_setPrice_35 : decode cX6_setPrice 35 = .ok (.ireturn, 1) := by decide +kernel
theorem dX6_setDemand_0 : decode cX6_setDemand 0 = .ok (.aload_n 0, 1) := by decide +kernel
theorem dX6_setDemand_1 : decode cX6_setDemand 1 = .ok (.iload_n 1, 1) := by decide +kernel
theorem dX6_setDemand_2 : decode cX6_setDemand 2 = .ok (.invokevirtual 61, 3) := by decide +kernel
theorem dX6_setDemand_5 : decode cX6_setDemand 5 = .ok (.ifCond .eq 5, 3) := by decide +kernel
theorem dX6_setDemand_8 : decode cX6_setDemand 8 = .ok (.iconst (-1), 1) := by decide +kernel
theorem dX6_setDemand_9 : decode cX6_setDemand 9 = .ok (.ireturn, 1) := by decide +kernel
theorem dX6_setDemand_10 : decode cX6_setDemand 10 = .ok (.iload_n 2, 1) := by decide +kernel
theorem dX6_setDemand_11 : decode cX6_setDemand 11 = .ok (.iconst 1, 1) := by decide +kernel
theorem dX6_setDemand_12 : decode cX6_setDemand 12 = .ok (.bipush 20, 2) := by decide +kernel
theorem dX6_setDemand_14 : decode cX6_setDemand 14 = .ok (.invokestatic 46, 3) := by decide +kernel
theorem dX6_setDemand_17 : decode cX6_setDemand 17 = .ok (.ifCond .eq 15, 3) := by decide +kernel
theorem dX6_setDemand_20 : decode cX6_setDemand 20 = .ok (.aload_n 0, 1) := by decide +kernel
theorem dX6_setDemand_21 : decode cX6_setDemand 21 = .ok (.bipush 13, 2) := by decide +kernel
theorem dX6_setDemand_23 : decode cX6_setDemand 23 = .ok (.iload_n 1, 1) := by decide +kernel
theorem dX6_setDemand_24 : decode cX6_setDemand 24 = .ok (.iadd, 1) := by decide +kernel
theorem dX6_setDemand_25 : decode cX6_setDemand 25 = .ok (.iload_n 2, 1) := by decide +kernel
theorem dX6_setDemand_26 : decode cX6_setDemand 26 = .ok (.invokevirtual 57, 3) := by decide +kernel
theorem dX6_setDemand_29 : decode cX6_setDemand 29 = .ok (.goto 5, 3) := by decide +kernel
theorem dX6_setDemand_32 : decode cX6_setDemand 32 = .ok (.bipush (-2), 2) := by decide +kernel
theorem dX6_setDemand_34 : decode cX6_setDemand 34 = .ok (.ireturn, 1) := by decide +kernel
theorem dX6_setRoute_0 : decode cX6_setRoute 0 = .ok (.aload_n 0, 1) := by decide +kernel
theorem dX6_setRoute_1 : decode cX6_setRoute 1 = .ok (.iload_n 1, 1) := by decide +kernel
theorem dX6_setRoute_2 : decode cX6_setRoute 2 = .ok (.invokevirtual 53, 3) := by decide +kernel
theorem dX6_setRoute_5 : decode cX6_setRoute 5 = .ok (.ifCond .ne 11, 3) := by decide +kernel
theorem dX6_setRoute_8 : decode cX6_setRoute 8 = .ok (.aload_n 0, 1) := by decide +kernel
theorem dX6_setRoute_9 : decode cX6_setRoute 9 = .ok (.iload_n 2, 1) := by decide +kernel
theorem dX6_setRoute_10 : decode cX6_setRoute 10 = .ok (.invokevirtual 61, 3) := by decide +kernel
theorem dX6_setRoute_13 : decode cX6_setRoute 13 = .ok (.ifCond .eq 5, 3) := by decide +kernel
theorem dX6_setRoute_16 : decode cX6_setRoute 16 = .ok (.iconst (-1), 1) := by decide +kernel
theorem dX6_setRoute_17 : decode cX6_setRoute 17 = .ok (.ireturn, 1) := by decide +kernel
theorem dX6_setRoute_18 : decode cX6_setRoute 18 = .ok (.iload_n 3, 1) := by decide +kernel
theorem dX6_setRoute_19 : decode cX6_setRoute 19 = .ok (.iconst 0, 1) := by decide +kernel
theorem dX6_setRoute_20 : decode cX6_setRoute 20 = .ok (.bipush 100, 2) := by decide +kernel
theorem dX6_setRoute_22 : decode cX6_setRoute 22 = .ok (.invokestatic 46, 3) := by decide +kernel
theorem dX6_setRoute_25 : decode cX6_setRoute 25 = .ok (.ifCond .eq 16, 3) := by decide +kernel
theorem dX6_setRoute_28 : decode cX6_setRoute 28 = .ok (.aload_n 0, 1) := by decide +kernel
theorem dX6_setRoute_29 : decode cX6_setRoute 29 = .ok (.iload_n 1, 1) := by decide +kernel
theorem dX6_setRoute_30 : decode cX6_setRoute 30 = .ok (.iload_n 2, 1) := by decide +kernel
theorem dX6_setRoute_31 : decode cX6_setRoute 31 = .ok (.invokestatic 64, 3) := by decide +kernel
theorem dX6_setRoute_34 : decode cX6_setRoute 34 = .ok (.iload_n 3, 1) := by decide +kernel
theorem dX6_setRoute_35 : decode cX6_setRoute 35 = .ok (.invokevirtual 57, 3) := by decide +kernel
theorem dX6_setRoute_38 : decode cX6_setRoute 38 = .ok (.goto 5, 3) := by decide +kernel
theorem dX6_setRoute_41 : decode cX6_setRoute 41 = .ok (.bipush (-2), 2) := by decide +kernel
theorem dX6_setRoute_43 : decode cX6_setRoute 43 = .ok (.ireturn, 1) := by decide +kernel
theorem dX6_setMost_0 : decode cX6_setMost 0 = .ok (.iload_n 1, 1) := by decide +kernel
theorem dX6_setMost_1 : decode cX6_setMost 1 = .ok (.iconst 1, 1) := by decide +kernel
theorem dX6_setMost_2 : decode cX6_setMost 2 = .ok (.bipush 7, 2) := by decide +kernel
theorem dX6_setMost_4 : decode cX6_setMost 4 = .ok (.invokestatic 46, 3) := by decide +kernel
theorem dX6_setMost_7 : decode cX6_setMost 7 = .ok (.ifCond .ne 6, 3) := by decide +kernel
theorem dX6_setMost_10 : decode cX6_setMost 10 = .ok (.bipush (-2), 2) := by decide +kernel
theorem dX6_setMost_12 : decode cX6_setMost 12 = .ok (.ireturn, 1) := by decide +kernel
theorem dX6_setMost_13 : decode cX6_setMost 13 = .ok (.aload_n 0, 1) := by decide +kernel
theorem dX6_setMost_14 : decode cX6_setMost 14 = .ok (.getfield 7, 3) := by decide +kernel
theorem dX6_setMost_17 : decode cX6_setMost 17 = .ok (.iconst 2, 1) := by decide +kernel
theorem dX6_setMost_18 : decode cX6_setMost 18 = .ok (.iaload, 1) := by decide +kernel
theorem dX6_setMost_19 : decode cX6_setMost 19 = .ok (.istore_n 2, 1) := by decide +kernel
theorem dX6_setMost_20 : decode cX6_setMost 20 = .ok (.iload_n 2, 1) := by decide +kernel
theorem dX6_setMost_21 : decode cX6_setMost 21 = .ok (.iload_n 1, 1) := by decide +kernel
theorem dX6_setMost_22 : decode cX6_setMost 22 = .ok (.if_icmp .ne 6, 3) := by decide +kernel
theorem dX6_setMost_25 : decode cX6_setMost 25 = .ok (.bipush (-5), 2) := by decide +kernel
theorem dX6_setMost_27 : decode cX6_setMost 27 = .ok (.ireturn, 1) := by decide +kernel
theorem dX6_setMost_28 : decode cX6_setMost 28 = .ok (.aload_n 0, 1) := by decide +kernel
theorem dX6_setMost_29 : decode cX6_setMost 29 = .ok (.invokevirtual 43, 3) := by decide +kernel
theorem dX6_setMost_32 : decode cX6_setMost 32 = .ok (.aload_n 0, 1) := by decide +kernel
theorem dX6_setMost_33 : decode cX6_setMost 33 = .ok (.getfield 7, 3) := by decide +kernel
theorem dX6_setMost_36 : decode cX6_setMost 36 = .ok (.iconst 2, 1) := by decide +kernel
theorem dX6_setMost_37 : decode cX6_setMost 37 = .ok (.iload_n 1, 1) := by decide +kernel
theorem dX6_setMost_38 : decode cX6_setMost 38 = .ok (.iastore, 1) := by decide +kernel
theorem dX6_setMost_39 : decode cX6_setMost 39 = .ok (.aload_n 0, 1) := by decide +kernel
theorem dX6_setMost_40 : decode cX6_setMost 40 = .ok (.getfield 7, 3) := by decide +kernel
theorem dX6_setMost_43 : decode cX6_setMost 43 = .ok (.iconst 4, 1) := by decide +kernel
theorem dX6_setMost_44 : decode cX6_setMost 44 = .ok (.bipush (-5), 2) := by decide +kernel
theorem dX6_setMost_46 : decode cX6_setMost 46 = .ok (.iastore, 1) := by decide +kernel
theorem dX6_setMost_47 : decode cX6_setMost 47 = .ok (.iload_n 2, 1) := by decide +kernel
theorem dX6_setMost_48 : decode cX6_setMost 48 = .ok (.ireturn, 1) := by decide +kernel
theorem dX6_exclude_0 : decode cX6_exclude 0 = .ok (.aload_n 0, 1) := by decide +kernel
theorem dX6_exclude_1 : decode cX6_exclude 1 = .ok (.iload_n 1, 1) := by decide +kernel
theorem dX6_exclude_2 : decode cX6_exclude 2 = .ok (.invokevirtual 53, 3) := by decide +kernel
theorem dX6_exclude_5 : decode cX6_exclude 5 = .ok (.ifCond .ne 11, 3) := by decide +kernel
theorem dX6_exclude_8 : decode cX6_exclude 8 = .ok (.aload_n 0, 1) := by decide +kernel
theorem dX6_exclude_9 : decode cX6_exclude 9 = .ok (.iload_n 2, 1) := by decide +kernel
theorem dX6_exclude_10 : decode cX6_exclude 10 = .ok (.invokevirtual 53, 3) := by decide +kernel
theorem dX6_exclude_13 : decode cX6_exclude 13 = .ok (.ifCond .eq 5, 3) := by decide +kernel
theorem dX6_exclude_16 : decode cX6_exclude 16 = .ok (.iconst (-1), 1) := by decide +kernel
theorem dX6_exclude_17 : decode cX6_exclude 17 = .ok (.ireturn, 1) := by decide +kernel
theorem dX6_exclude_18 : decode cX6_exclude 18 = .ok (.iload_n 1, 1) := by decide +kernel
theorem dX6_exclude_19 : decode cX6_exclude 19 = .ok (.iload_n 2, 1) := by decide +kernel
theorem dX6_exclude_20 : decode cX6_exclude 20 = .ok (.if_icmp .ne 6, 3) := by decide +kernel
theorem dX6_exclude_23 : decode cX6_exclude 23 = .ok (.bipush (-2), 2) := by decide +kernel
theorem dX6_exclude_25 : decode cX6_exclude 25 = .ok (.ireturn, 1) := by decide +kernel
theorem dX6_exclude_26 : decode cX6_exclude 26 = .ok (.aload_n 0, 1) := by decide +kernel
theorem dX6_exclude_27 : decode cX6_exclude 27 = .ok (.getfield 7, 3) := by decide +kernel
theorem dX6_exclude_30 : decode cX6_exclude 30 = .ok (.bipush 77, 2) := by decide +kernel
theorem dX6_exclude_32 : decode cX6_exclude 32 = .ok (.iload_n 1, 1) := by decide +kernel
theorem dX6_exclude_33 : decode cX6_exclude 33 = .ok (.iadd, 1) := by decide +kernel
theorem dX6_exclude_34 : decode cX6_exclude 34 = .ok (.iaload, 1) := by decide +kernel
theorem dX6_exclude_35 : decode cX6_exclude 35 = .ok (.iload_n 2, 1) := by decide +kernel
theorem dX6_exclude_36 : decode cX6_exclude 36 = .ok (.invokestatic 67, 3) := by decide +kernel
theorem dX6_exclude_39 : decode cX6_exclude 39 = .ok (.iload_n 3, 1) := by decide +kernel
theorem dX6_exclude_40 : decode cX6_exclude 40 = .ok (.if_icmp .ne 6, 3) := by decide +kernel
theorem dX6_exclude_43 : decode cX6_exclude 43 = .ok (.bipush (-5), 2) := by decide +kernel
theorem dX6_exclude_45 : decode cX6_exclude 45 = .ok (.ireturn, 1) := by decide +kernel
theorem dX6_exclude_46 : decode cX6_exclude 46 = .ok (.aload_n 0, 1) := by decide +kernel
theorem dX6_exclude_47 : decode cX6_exclude 47 = .ok (.invokevirtual 43, 3) := by decide +kernel
theorem dX6_exclude_50 : decode cX6_exclude 50 = .ok (.aload_n 0, 1) := by decide +kernel
theorem dX6_exclude_51 : decode cX6_exclude 51 = .ok (.getfield 7, 3) := by decide +kernel
theorem dX6_exclude_54 : decode cX6_exclude 54 = .ok (.bipush 77, 2) := by decide +kernel
theorem dX6_exclude_56 : decode cX6_exclude 56 = .ok (.iload_n 1, 1) := by decide +kernel
theorem dX6_exclude_57 : decode cX6_exclude 57 = .ok (.iadd, 1) := by decide +kernel
theorem dX6_exclude_58 : decode cX6_exclude 58 = .ok (.dup2, 1) := by decide +kernel
theorem dX6_exclude_59 : decode cX6_exclude 59 = .ok (.iaload, 1) := by decide +kernel
theorem dX6_exclude_60 : decode cX6_exclude 60 = .ok (.iconst 1, 1) := by decide +kernel
theorem dX6_exclude_61 : decode cX6_exclude 61 = .ok (.iload_n 2, 1) := by decide +kernel
theorem dX6_exclude_62 : decode cX6_exclude 62 = .ok (.ishl, 1) := by decide +kernel
theorem dX6_exclude_63 : decode cX6_exclude 63 = .ok (.ixor, 1) := by decide +kernel
theorem dX6_exclude_64 : decode cX6_exclude 64 = .ok (.iastore, 1) := by decide +kernel
theorem dX6_exclude_65 : decode cX6_exclude 65 = .ok (.aload_n 0, 1) := by decide +kernel
theorem dX6_exclude_66 : decode cX6_exclude 66 = .ok (.getfield 7, 3) := by decide +kernel
theorem dX6_exclude_69 : decode cX6_exclude 69 = .ok (.bipush 77, 2) := by decide +kernel
theorem dX6_exclude_71 : decode cX6_exclude 71 = .ok (.iload_n 2, 1) := by decide +kernel
theorem dX6_exclude_72 : decode cX6_exclude 72 = .ok (.iadd, 1) := by decide +kernel
theorem dX6_exclude_73 : decode cX6_exclude 73 = .ok (.dup2, 1) := by decide +kernel
theorem dX6_exclude_74 : decode cX6_exclude 74 = .ok (.iaload, 1) := by decide +kernel
theorem dX6_exclude_75 : decode cX6_exclude 75 = .ok (.iconst 1, 1) := by decide +kernel
theorem dX6_exclude_76 : decode cX6_exclude 76 = .ok (.iload_n 1, 1) := by decide +kernel
theorem dX6_exclude_77 : decode cX6_exclude 77 = .ok (.ishl, 1) := by decide +kernel
theorem dX6_exclude_78 : decode cX6_exclude 78 = .ok (.ixor, 1) := by decide +kernel
theorem dX6_exclude_79 : decode cX6_exclude 79 = .ok (.iastore, 1) := by decide +kernel
theorem dX6_exclude_80 : decode cX6_exclude 80 = .ok (.aload_n 0, 1) := by decide +kernel
theorem dX6_exclude_81 : decode cX6_exclude 81 = .ok (.getfield 7, 3) := by decide +kernel
theorem dX6_exclude_84 : decode cX6_exclude 84 = .ok (.iconst 4, 1) := by decide +kernel
theorem dX6_exclude_85 : decode cX6_exclude 85 = .ok (.bipush (-5), 2) := by decide +kernel
theorem dX6_exclude_87 : decode cX6_exclude 87 = .ok (.iastore, 1) := by decide +kernel
theorem dX6_exclude_88 : decode cX6_exclude 88 = .ok (.aload_n 0, 1) := by decide +kernel
theorem dX6_exclude_89 : decode cX6_exclude 89 = .ok (.getfield 7, 3) := by decide +kernel
theorem dX6_exclude_92 : decode cX6_exclude 92 = .ok (.bipush 77, 2) := by decide +kernel
theorem dX6_exclude_94 : decode cX6_exclude 94 = .ok (.iload_n 1, 1) := by decide +kernel
theorem dX6_exclude_95 : decode cX6_exclude 95 = .ok (.iadd, 1) := by decide +kernel
theorem dX6_exclude_96 : decode cX6_exclude 96 = .ok (.iaload, 1) := by decide +kernel
theorem dX6_exclude_97 : decode cX6_exclude 97 = .ok (.invokestatic 71, 3) := by decide +kernel
theorem dX6_exclude_100 : decode cX6_exclude 100 = .ok (.ireturn, 1) := by decide +kernel
theorem dX6_noPlan_0 : decode cX6_noPlan 0 = .ok (.iload_n 1, 1) := by decide +kernel
theorem dX6_noPlan_1 : decode cX6_noPlan 1 = .ok (.iconst 0, 1) := by decide +kernel
theorem dX6_noPlan_2 : decode cX6_noPlan 2 = .ok (.iconst 1, 1) := by decide +kernel
theorem dX6_noPlan_3 : decode cX6_noPlan 3 = .ok (.aload_n 0, 1) := by decide +kernel
theorem dX6_noPlan_4 : decode cX6_noPlan 4 = .ok (.getfield 7, 3) := by decide +kernel
theorem dX6_noPlan_7 : decode cX6_noPlan 7 = .ok (.iconst 0, 1) := by decide +kernel
theorem dX6_noPlan_8 : decode cX6_noPlan 8 = .ok (.iaload, 1) := by decide +kernel
theorem dX6_noPlan_9 : decode cX6_noPlan 9 = .ok (.ishl, 1) := by decide +kernel
theorem dX6_noPlan_10 : decode cX6_noPlan 10 = .ok (.iconst 1, 1) := by decide +kernel
theorem dX6_noPlan_11 : decode cX6_noPlan 11 = .ok (.isub, 1) := by decide +kernel
theorem dX6_noPlan_12 : decode cX6_noPlan 12 = .ok (.invokestatic 46, 3) := by decide +kernel
theorem dX6_noPlan_15 : decode cX6_noPlan 15 = .ok (.ifCond .ne 7, 3) := by decide +kernel
theorem dX6_noPlan_18 : decode cX6_noPlan 18 = .ok (.iconst 1, 1) := by decide +kernel
theorem dX6_noPlan_19 : decode cX6_noPlan 19 = .ok (.goto 4, 3) := by decide +kernel
theorem dX6_noPlan_22 : decode cX6_noPlan 22 = .ok (.iconst 0, 1) := by decide +kernel
theorem dX6_noPlan_23 : decode cX6_noPlan 23 = .ok (.ireturn, 1) := by decide +kernel
theorem dX6_excludes_0 : decode cX6_excludes 0 = .ok (.iconst 0, 1) := by decide +kernel
theorem dX6_excludes_1 : decode cX6_excludes 1 = .ok (.istore_n 2, 1) := by decide +kernel
theorem dX6_excludes_2 : decode cX6_excludes 2 = .ok (.iconst 0, 1) := by decide +kernel
theorem dX6_excludes_3 : decode cX6_excludes 3 = .ok (.istore_n 3, 1) := by decide +kernel
theorem dX6_excludes_4 : decode cX6_excludes 4 = .ok (.iload_n 3, 1) := by decide +kernel
theorem dX6_excludes_5 : decode cX6_excludes 5 = .ok (.aload_n 0, 1) := by decide +kernel
theorem dX6_excludes_6 : decode cX6_excludes 6 = .ok (.getfield 7, 3) := by decide +kernel
theorem dX6_excludes_9 : decode cX6_excludes 9 = .ok (.iconst 0, 1) := by decide +kernel
theorem dX6_excludes_10 : decode cX6_excludes 10 = .ok (.iaload, 1) := by decide +kernel
theorem dX6_excludes_11 : decode cX6_excludes 11 = .ok (.if_icmp .ge 41, 3) := by decide +kernel
theorem dX6_excludes_14 : decode cX6_excludes 14 = .ok (.iload_n 2, 1) := by decide +kernel
theorem dX6_excludes_15 : decode cX6_excludes 15 = .ok (.ifCond .ne 25, 3) := by decide +kernel
theorem dX6_excludes_18 : decode cX6_excludes 18 = .ok (.iload_n 1, 1) := by decide +kernel
theorem dX6_excludes_19 : decode cX6_excludes 19 = .ok (.iload_n 3, 1) := by decide +kernel
theorem dX6_excludes_20 : decode cX6_excludes 20 = .ok (.invokestatic 67, 3) := by decide +kernel
theorem dX6_excludes_23 : decode cX6_excludes 23 = .ok (.ifCond .eq 21, 3) := by decide +kernel
theorem dX6_excludes_26 : decode cX6_excludes 26 = .ok (.iload_n 1, 1) := by decide +kernel
theorem dX6_excludes_27 : decode cX6_excludes 27 = .ok (.aload_n 0, 1) := by decide +kernel
theorem dX6_excludes_28 : decode cX6_excludes 28 = .ok (.getfield 7, 3) := by decide +kernel
theorem dX6_excludes_31 : decode cX6_excludes 31 = .ok (.bipush 77, 2) := by decide +kernel
theorem dX6_excludes_33 : decode cX6_excludes 33 = .ok (.iload_n 3, 1) := by decide +kernel
theorem dX6_excludes_34 : decode cX6_excludes 34 = .ok (.iadd, 1) := by decide +kernel
theorem dX6_excludes_35 : decode cX6_excludes 35 = .ok (.iaload, 1) := by decide +kernel
theorem dX6_excludes_36 : decode cX6_excludes 36 = .ok (.iand, 1) := by decide +kernel
theorem dX6_excludes_37 : decode cX6_excludes 37 = .ok (.ifCond .eq 7, 3) := by decide +kernel
theorem dX6_excludes_40 : decode cX6_excludes 40 = .ok (.iconst 1, 1) := by decide +kernel
theorem dX6_excludes_41 : decode cX6_excludes 41 = .ok (.goto 4, 3) := by decide +kernel
theorem dX6_excludes_44 : decode cX6_excludes 44 = .ok (.iconst 0, 1) := by decide +kernel
theorem dX6_excludes_45 : decode cX6_excludes 45 = .ok (.istore_n 2, 1) := by decide +kernel
theorem dX6_excludes_46 : decode cX6_excludes 46 = .ok (.iinc 3 1, 3) := by decide +kernel
theorem dX6_excludes_49 : decode cX6_excludes 49 = .ok (.goto (-45), 3) := by decide +kernel
theorem dX6_excludes_52 : decode cX6_excludes 52 = .ok (.iload_n 2, 1) := by decide +kernel
theorem dX6_excludes_53 : decode cX6_excludes 53 = .ok (.ireturn, 1) := by decide +kernel
theorem dX6_isAllowed_0 : decode cX6_isAllowed 0 = .ok (.iload_n 1, 1) := by decide +kernel
theorem dX6_isAllowed_1 : decode cX6_isAllowed 1 = .ok (.invokestatic 71, 3) := by decide +kernel
theorem dX6_isAllowed_4 : decode cX6_isAllowed 4 = .ok (.aload_n 0, 1) := by decide +kernel
theorem dX6_isAllowed_5 : decode cX6_isAllowed 5 = .ok (.getfield 7, 3) := by decide +kernel
theorem dX6_isAllowed_8 : decode cX6_isAllowed 8 = .ok (.iconst 2, 1) := by decide +kernel
theorem dX6_isAllowed_9 : decode cX6_isAllowed 9 = .ok (.iaload, 1) := by decide +kernel
theorem dX6_isAllowed_10 : decode cX6_isAllowed 10 = .ok (.if_icmp .gt 15, 3) := by decide +kernel
theorem dX6_isAllowed_13 : decode cX6_isAllowed 13 = .ok (.aload_n 0, 1) := by decide +kernel
theorem dX6_isAllowed_14 : decode cX6_isAllowed 14 = .ok (.iload_n 1, 1) := by decide +kernel
theorem dX6_isAllowed_15 : decode cX6_isAllowed 15 = .ok (.invokevirtual 75, 3) := by decide +kernel
theorem dX6_isAllowed_18 : decode cX6_isAllowed 18 = .ok (.ifCond .ne 7, 3) := by decide +kernel
theorem dX6_isAllowed_21 : decode cX6_isAllowed 21 = .ok (.iconst 1, 1) := by decide +kernel
theorem dX6_isAllowed_22 : decode cX6_isAllowed 22 = .ok (.goto 4, 3) := by decide +kernel
theorem dX6_isAllowed_25 : decode cX6_isAllowed 25 = .ok (.iconst 0, 1) := by decide +kernel
theorem dX6_isAllowed_26 : decode cX6_isAllowed 26 = .ok (.ireturn, 1) := by decide +kernel
theorem dX6_reachedFrom_0 : decode cX6_reachedFrom 0 = .ok (.iconst 0, 1) := by decide +kernel
theorem dX6_reachedFrom_1 : decode cX6_reachedFrom 1 = .ok (.istore_n 2, 1) := by decide +kernel
theorem dX6_reachedFrom_2 : decode cX6_reachedFrom 2 = .ok (.iconst 0, 1) := by decide +kernel
theorem dX6_reachedFrom_3 : decode cX6_reachedFrom 3 = .ok (.istore_n 3, 1) := by decide +kernel
theorem dX6_reachedFrom_4 : decode cX6_reachedFrom 4 = .ok (.iload_n 3, 1) := by decide +kernel
theorem dX6_reachedFrom_5 : decode cX6_reachedFrom 5 = .ok (.aload_n 0, 1) := by decide +kernel
theorem dX6_reachedFrom_6 : decode cX6_reachedFrom 6 = .ok (.getfield 7, 3) := by decide +kernel
theorem dX6_reachedFrom_9 : decode cX6_reachedFrom 9 = .ok (.iconst 0, 1) := by decide +kernel
theorem dX6_reachedFrom_10 : decode cX6_reachedFrom 10 = .ok (.iaload, 1) := by decide +kernel
theorem dX6_reachedFrom_11 : decode cX6_reachedFrom 11 = .ok (.if_icmp .ge 34, 3) := by decide +kernel
theorem dX6_reachedFrom_14 : decode cX6_reachedFrom 14 = .ok (.iload_n 2, 1) := by decide +kernel
theorem dX6_reachedFrom_15 : decode cX6_reachedFrom 15 = .ok (.aload_n 0, 1) := by decide +kernel
theorem dX6_reachedFrom_16 : decode cX6_reachedFrom 16 = .ok (.getfield 7, 3) := by decide +kernel
theorem dX6_reachedFrom_19 : decode cX6_reachedFrom 19 = .ok (.iload_n 3, 1) := by decide +kernel
theorem dX6_reachedFrom_20 : decode cX6_reachedFrom 20 = .ok (.iload_n 1, 1) := by decide +kernel
theorem dX6_reachedFrom_21 : decode cX6_reachedFrom 21 = .ok (.invokestatic 64, 3) := by decide +kernel
theorem dX6_reachedFrom_24 : decode cX6_reachedFrom 24 = .ok (.iaload, 1) := by decide +kernel
theorem dX6_reachedFrom_25 : decode cX6_reachedFrom 25 = .ok (.bipush 100, 2) := by decide +kernel
theorem dX6_reachedFrom_27 : decode cX6_reachedFrom 27 = .ok (.if_icmp .ge 9, 3) := by decide +kernel
theorem dX6_reachedFrom_30 : decode cX6_reachedFrom 30 = .ok (.iconst 1, 1) := by decide +kernel
theorem dX6_reachedFrom_31 : decode cX6_reachedFrom 31 = .ok (.iload_n 3, 1) := by decide +kernel
theorem dX6_reachedFrom_32 : decode cX6_reachedFrom 32 = .ok (.ishl, 1) := by decide +kernel
theorem dX6_reachedFrom_33 : decode cX6_reachedFrom 33 = .ok (.goto 4, 3) := by decide +kernel
theorem dX6_reachedFrom_36 : decode cX6_reachedFrom 36 = .ok (.iconst 0, 1) := by decide +kernel
theorem dX6_reachedFrom_37 : decode cX6_reachedFrom 37 = .ok (.ior, 1) := by decide +kernel
theorem dX6_reachedFrom_38 : decode cX6_reachedFrom 38 = .ok (.istore_n 2, 1) := by decide +kernel
theorem dX6_reachedFrom_39 : decode cX6_reachedFrom 39 = .ok (.iinc 3 1, 3) := by decide +kernel
theorem dX6_reachedFrom_42 : decode cX6_reachedFrom 42 = .ok (.goto (-38), 3) := by decide +kernel
theorem dX6_reachedFrom_45 : decode cX6_reachedFrom 45 = .ok (.iload_n 2, 1) := by decide +kernel
theorem dX6_reachedFrom_46 : decode cX6_reachedFrom 46 = .ok (.ireturn, 1) := by decide +kernel
theorem dX6_missed_0 : decode cX6_missed 0 = .ok (.iconst 0, 1) := by decide +kernel
theorem dX6_missed_1 : decode cX6_missed 1 = .ok (.istore_n 2, 1) := by decide +kernel
theorem dX6_missed_2 : decode cX6_missed 2 = .ok (.iload_n 2, 1) := by decide +kernel
theorem dX6_missed_3 : decode cX6_missed 3 = .ok (.aload_n 0, 1) := by decide +kernel
theorem dX6_missed_4 : decode cX6_missed 4 = .ok (.getfield 7, 3) := by decide +kernel
theorem dX6_missed_7 : decode cX6_missed 7 = .ok (.iconst 1, 1) := by decide +kernel
theorem dX6_missed_8 : decode cX6_missed 8 = .ok (.iaload, 1) := by decide +kernel
theorem dX6_missed_9 : decode cX6_missed 9 = .ok (.if_icmp .ge 21, 3) := by decide +kernel
theorem dX6_missed_12 : decode cX6_missed 12 = .ok (.iload_n 1, 1) := by decide +kernel
theorem dX6_missed_13 : decode cX6_missed 13 = .ok (.aload_n 0, 1) := by decide +kernel
theorem dX6_missed_14 : decode cX6_missed 14 = .ok (.iload_n 2, 1) := by decide +kernel
theorem dX6_missed_15 : decode cX6_missed 15 = .ok (.invokevirtual 78, 3) := by decide +kernel
theorem dX6_missed_18 : decode cX6_missed 18 = .ok (.iand, 1) := by decide +kernel
theorem dX6_missed_19 : decode cX6_missed 19 = .ok (.ifCond .ne 5, 3) := by decide +kernel
theorem dX6_missed_22 : decode cX6_missed 22 = .ok (.iload_n 2, 1) := by decide +kernel
theorem dX6_missed_23 : decode cX6_missed 23 = .ok (.ireturn, 1) := by decide +kernel
theorem dX6_missed_24 : decode cX6_missed 24 = .ok (.iinc 2 1, 3) := by decide +kernel
theorem dX6_missed_27 : decode cX6_missed 27 = .ok (.goto (-25), 3) := by decide +kernel
theorem dX6_missed_30 : decode cX6_missed 30 = .ok (.bipush (-5), 2) := by decide +kernel
theorem dX6_missed_32 : decode cX6_missed 32 = .ok (.ireturn, 1) := by decide +kernel
theorem dX6_server_0 : decode cX6_server 0 = .ok (.bipush (-5), 2) := by decide +kernel
theorem dX6_server_2 : decode cX6_server 2 = .ok (.istore_n 3, 1) := by decide +kernel
theorem dX6_server_3 : decode cX6_server 3 = .ok (.iconst 0, 1) := by decide +kernel
theorem dX6_server_4 : decode cX6_server 4 = .ok (.istore 4, 2) := by decide +kernel
theorem dX6_server_6 : decode cX6_server 6 = .ok (.iload 4, 2) := by decide +kernel
theorem dX6_server_8 : decode cX6_server 8 = .ok (.aload_n 0, 1) := by decide +kernel
theorem dX6_server_9 : decode cX6_server 9 = .ok (.getfield 7, 3) := by decide +kernel
theorem dX6_server_12 : decode cX6_server 12 = .ok (.iconst 0, 1) := by decide +kernel
theorem dX6_server_13 : decode cX6_server 13 = .ok (.iaload, 1) := by decide +kernel
theorem dX6_server_14 : decode cX6_server 14 = .ok (.if_icmp .ge 81, 3) := by decide +kernel
theorem dX6_server_17 : decode cX6_server 17 = .ok (.iload_n 1, 1) := by decide +kernel
theorem dX6_server_18 : decode cX6_server 18 = .ok (.iload 4, 2) := by decide +kernel
theorem dX6_server_20 : decode cX6_server 20 = .ok (.invokestatic 67, 3) := by decide +kernel
theorem dX6_server_23 : decode cX6_server 23 = .ok (.ifCond .eq 23, 3) := by decide +kernel
theorem dX6_server_26 : decode cX6_server 26 = .ok (.aload_n 0, 1) := by decide +kernel
theorem dX6_server_27 : decode cX6_server 27 = .ok (.getfield 7, 3) := by decide +kernel
theorem dX6_server_30 : decode cX6_server 30 = .ok (.iload 4, 2) := by decide +kernel
theorem dX6_server_32 : decode cX6_server 32 = .ok (.iload_n 2, 1) := by decide +kernel
theorem dX6_server_33 : decode cX6_server 33 = .ok (.invokestatic 64, 3) := by decide +kernel
theorem dX6_server_36 : decode cX6_server 36 = .ok (.iaload, 1) := by decide +kernel
theorem dX6_server_37 : decode cX6_server 37 = .ok (.bipush 100, 2) := by decide +kernel
theorem dX6_server_39 : decode cX6_server 39 = .ok (.if_icmp .ge 7, 3) := by decide +kernel
theorem dX6_server_42 : decode cX6_server 42 = .ok (.iconst 1, 1) := by decide +kernel
theorem dX6_server_43 : decode cX6_server 43 = .ok (.goto 4, 3) := by decide +kernel
theorem dX6_server_46 : decode cX6_server 46 = .ok (.iconst 0, 1) := by decide +kernel
theorem dX6_server_47 : decode cX6_server 47 = .ok (.istore 5, 2) := by decide +kernel
theorem dX6_server_49 : decode cX6_server 49 = .ok (.iload 5, 2) := by decide +kernel
theorem dX6_server_51 : decode cX6_server 51 = .ok (.ifCond .eq 36, 3) := by decide +kernel
theorem dX6_server_54 : decode cX6_server 54 = .ok (.iload_n 3, 1) := by decide +kernel
theorem dX6_server_55 : decode cX6_server 55 = .ok (.ifCond .lt 27, 3) := by decide +kernel
theorem dX6_server_58 : decode cX6_server 58 = .ok (.aload_n 0, 1) := by decide +kernel
theorem dX6_server_59 : decode cX6_server 59 = .ok (.getfield 7, 3) := by decide +kernel
theorem dX6_server_62 : decode cX6_server 62 = .ok (.iload 4, 2) := by decide +kernel
theorem dX6_server_64 : decode cX6_server 64 = .ok (.iload_n 2, 1) := by decide +kernel
theorem dX6_server_65 : decode cX6_server 65 = .ok (.invokestatic 64, 3) := by decide +kernel
theorem dX6_server_68 : decode cX6_server 68 = .ok (.iaload, 1) := by decide +kernel
theorem dX6_server_69 : decode cX6_server 69 = .ok (.aload_n 0, 1) := by decide +kernel
theorem dX6_server_70 : decode cX6_server 70 = .ok (.getfield 7, 3) := by decide +kernel
theorem dX6_server_73 : decode cX6_server 73 = .ok (.iload_n 3, 1) := by decide +kernel
theorem dX6_server_74 : decode cX6_server 74 = .ok (.iload_n 2, 1) := by decide +kernel
theorem dX6_server_75 : decode cX6_server 75 = .ok (.invokestatic 64, 3) := by decide +kernel
theorem dX6_server_78 : decode cX6_server 78 = .ok (.iaload, 1) := by decide +kernel
theorem dX6_server_79 : decode cX6_server 79 = .ok (.if_icmp .ge 8, 3) := by decide +kernel
theorem dX6_server_82 : decode cX6_server 82 = .ok (.iload 4, 2) := by decide +kernel
theorem dX6_server_84 : decode cX6_server 84 = .ok (.goto 4, 3) := by decide +kernel
theorem dX6_server_87 : decode cX6_server 87 = .ok (.iload_n 3, 1) := by decide +kernel
theorem dX6_server_88 : decode cX6_server 88 = .ok (.istore_n 3, 1) := by decide +kernel
theorem dX6_server_89 : decode cX6_server 89 = .ok (.iinc 4 1, 3) := by decide +kernel
theorem dX6_server_92 : decode cX6_server 92 = .ok (.goto (-86), 3) := by decide +kernel
theorem dX6_server_95 : decode cX6_server 95 = .ok (.iload_n 3, 1) := by decide +kernel
theorem dX6_server_96 : decode cX6_server 96 = .ok (.ireturn, 1) := by decide +kernel
theorem dX6_prices_0 : decode cX6_prices 0 = .ok (.iconst 0, 1) := by decide +kernel
theorem dX6_prices_1 : decode cX6_prices 1 = .ok (.istore_n 2, 1) := by decide +kernel
theorem dX6_prices_2 : decode cX6_prices 2 = .ok (.iconst 0, 1) := by decide +kernel
theorem dX6_prices_3 : decode cX6_prices 3 = .ok (.istore_n 3, 1) := by decide +kernel
theorem dX6_prices_4 : decode cX6_prices 4 = .ok (.iload_n 3, 1) := by decide +kernel
theorem dX6_prices_5 : decode cX6_prices 5 = .ok (.aload_n 0, 1) := by decide +kernel
theorem dX6_prices_6 : decode cX6_prices 6 = .ok (.getfield 7, 3) := by decide +kernel
theorem dX6_prices_9 : decode cX6_prices 9 = .ok (.iconst 0, 1) := by decide +kernel
theorem dX6_prices_10 : decode cX6_prices 10 = .ok (.iaload, 1) := by decide +kernel
theorem dX6_prices_11 : decode cX6_prices 11 = .ok (.if_icmp .ge 33, 3) := by decide +kernel
theorem dX6_prices_14 : decode cX6_prices 14 = .ok (.iload_n 2, 1) := by decide +kernel
theorem dX6_prices_15 : decode cX6_prices 15 = .ok (.iload_n 1, 1) := by decide +kernel
theorem dX6_prices_16 : decode cX6_prices 16 = .ok (.iload_n 3, 1) := by decide +kernel
theorem dX6_prices_17 : decode cX6_prices 17 = .ok (.invokestatic 67, 3) := by decide +kernel
theorem dX6_prices_20 : decode cX6_prices 20 = .ok (.ifCond .eq 15, 3) := by decide +kernel
theorem dX6_prices_23 : decode cX6_prices 23 = .ok (.aload_n 0, 1) := by decide +kernel
theorem dX6_prices_24 : decode cX6_prices 24 = .ok (.getfield 7, 3) := by decide +kernel
theorem dX6_prices_27 : decode cX6_prices 27 = .ok (.bipush 6, 2) := by decide +kernel
theorem dX6_prices_29 : decode cX6_prices 29 = .ok (.iload_n 3, 1) := by decide +kernel
theorem dX6_prices_30 : decode cX6_prices 30 = .ok (.iadd, 1) := by decide +kernel
theorem dX6_prices_31 : decode cX6_prices 31 = .ok (.iaload, 1) := by decide +kernel
theorem dX6_prices_32 : decode cX6_prices 32 = .ok (.goto 4, 3) := by decide +kernel
theorem dX6_prices_35 : decode cX6_prices 35 = .ok (.iconst 0, 1) := by decide +kernel
theorem dX6_prices_36 : decode cX6_prices 36 = .ok (.iadd, 1) := by decide +kernel
theorem dX6_prices_37 : decode cX6_prices 37 = .ok (.istore_n 2, 1) := by decide +kernel
theorem dX6_prices_38 : decode cX6_prices 38 = .ok (.iinc 3 1, 3) := by decide +kernel
theorem dX6_prices_41 : decode cX6_prices 41 = .ok (.goto (-37), 3) := by decide +kernel
theorem dX6_prices_44 : decode cX6_prices 44 = .ok (.iload_n 2, 1) := by decide +kernel
theorem dX6_prices_45 : decode cX6_prices 45 = .ok (.ireturn, 1) := by decide +kernel
theorem dX6_routes_0 : decode cX6_routes 0 = .ok (.iconst 0, 1) := by decide +kernel
theorem dX6_routes_1 : decode cX6_routes 1 = .ok (.istore_n 2, 1) := by decide +kernel
theorem dX6_routes_2 : decode cX6_routes 2 = .ok (.iconst 0, 1) := by decide +kernel
theorem dX6_routes_3 : decode cX6_routes 3 = .ok (.istore_n 3, 1) := by decide +kernel
theorem dX6_routes_4 : decode cX6_routes 4 = .ok (.iload_n 3, 1) := by decide +kernel
theorem dX6_routes_5 : decode cX6_routes 5 = .ok (.aload_n 0, 1) := by decide +kernel
theorem dX6_routes_6 : decode cX6_routes 6 = .ok (.getfield 7, 3) := by decide +kernel
theorem dX6_routes_9 : decode cX6_routes 9 = .ok (.iconst 1, 1) := by decide +kernel
theorem dX6_routes_10 : decode cX6_routes 10 = .ok (.iaload, 1) := by decide +kernel
theorem dX6_routes_11 : decode cX6_routes 11 = .ok (.if_icmp .ge 37, 3) := by decide +kernel
theorem dX6_routes_14 : decode cX6_routes 14 = .ok (.iload_n 2, 1) := by decide +kernel
theorem dX6_routes_15 : decode cX6_routes 15 = .ok (.aload_n 0, 1) := by decide +kernel
theorem dX6_routes_16 : decode cX6_routes 16 = .ok (.getfield 7, 3) := by decide +kernel
theorem dX6_routes_19 : decode cX6_routes 19 = .ok (.bipush 13, 2) := by decide +kernel
theorem dX6_routes_21 : decode cX6_routes 21 = .ok (.iload_n 3, 1) := by decide +kernel
theorem dX6_routes_22 : decode cX6_routes 22 = .ok (.iadd, 1) := by decide +kernel
theorem dX6_routes_23 : decode cX6_routes 23 = .ok (.iaload, 1) := by decide +kernel
theorem dX6_routes_24 : decode cX6_routes 24 = .ok (.aload_n 0, 1) := by decide +kernel
theorem dX6_routes_25 : decode cX6_routes 25 = .ok (.getfield 7, 3) := by decide +kernel
theorem dX6_routes_28 : decode cX6_routes 28 = .ok (.aload_n 0, 1) := by decide +kernel
theorem dX6_routes_29 : decode cX6_routes 29 = .ok (.iload_n 1, 1) := by decide +kernel
theorem dX6_routes_30 : decode cX6_routes 30 = .ok (.iload_n 3, 1) := by decide +kernel
theorem dX6_routes_31 : decode cX6_routes 31 = .ok (.invokevirtual 81, 3) := by decide +kernel
theorem dX6_routes_34 : decode cX6_routes 34 = .ok (.iload_n 3, 1) := by decide +kernel
theorem dX6_routes_35 : decode cX6_routes 35 = .ok (.invokestatic 64, 3) := by decide +kernel
theorem dX6_routes_38 : decode cX6_routes 38 = .ok (.iaload, 1) := by decide +kernel
theorem dX6_routes_39 : decode cX6_routes 39 = .ok (.imul, 1) := by decide +kernel
theorem dX6_routes_40 : decode cX6_routes 40 = .ok (.iadd, 1) := by decide +kernel
theorem dX6_routes_41 : decode cX6_routes 41 = .ok (.istore_n 2, 1) := by decide +kernel
theorem dX6_routes_42 : decode cX6_routes 42 = .ok (.iinc 3 1, 3) := by decide +kernel
theorem dX6_routes_45 : decode cX6_routes 45 = .ok (.goto (-41), 3) := by decide +kernel
theorem dX6_routes_48 : decode cX6_routes 48 = .ok (.iload_n 2, 1) := by decide +kernel
theorem dX6_routes_49 : decode cX6_routes 49 = .ok (.ireturn, 1) := by decide +kernel
theorem dX6_isFeasible_0 : decode cX6_isFeasible 0 = .ok (.aload_n 0, 1) := by decide +kernel
theorem dX6_isFeasible_1 : decode cX6_isFeasible 1 = .ok (.iload_n 1, 1) := by decide +kernel
theorem dX6_isFeasible_2 : decode cX6_isFeasible 2 = .ok (.invokevirtual 84, 3) := by decide +kernel
theorem dX6_isFeasible_5 : decode cX6_isFeasible 5 = .ok (.ifCond .eq 15, 3) := by decide +kernel
theorem dX6_isFeasible_8 : decode cX6_isFeasible 8 = .ok (.aload_n 0, 1) := by decide +kernel
theorem dX6_isFeasible_9 : decode cX6_isFeasible 9 = .ok (.iload_n 1, 1) := by decide +kernel
theorem dX6_isFeasible_10 : decode cX6_isFeasible 10 = .ok (.invokevirtual 87, 3) := by decide +kernel
theorem dX6_isFeasible_13 : decode cX6_isFeasible 13 = .ok (.ifCond .ge 7, 3) := by decide +kernel
theorem dX6_isFeasible_16 : decode cX6_isFeasible 16 = .ok (.iconst 1, 1) := by decide +kernel
theorem dX6_isFeasible_17 : decode cX6_isFeasible 17 = .ok (.goto 4, 3) := by decide +kernel
theorem dX6_isFeasible_20 : decode cX6_isFeasible 20 = .ok (.iconst 0, 1) := by decide +kernel
theorem dX6_isFeasible_21 : decode cX6_isFeasible 21 = .ok (.ireturn, 1) := by decide +kernel
theorem dX6_noCut_0 : decode cX6_noCut 0 = .ok (.iload_n 1, 1) := by decide +kernel
theorem dX6_noCut_1 : decode cX6_noCut 1 = .ok (.iconst 0, 1) := by decide +kernel
theorem dX6_noCut_2 : decode cX6_noCut 2 = .ok (.aload_n 0, 1) := by decide +kernel
theorem dX6_noCut_3 : decode cX6_noCut 3 = .ok (.getfield 7, 3) := by decide +kernel
theorem dX6_noCut_6 : decode cX6_noCut 6 = .ok (.iconst 3, 1) := by decide +kernel
theorem dX6_noCut_7 : decode cX6_noCut 7 = .ok (.iaload, 1) := by decide +kernel
theorem dX6_noCut_8 : decode cX6_noCut 8 = .ok (.iconst 1, 1) := by decide +kernel
theorem dX6_noCut_9 : decode cX6_noCut 9 = .ok (.isub, 1) := by decide +kernel
theorem dX6_noCut_10 : decode cX6_noCut 10 = .ok (.invokestatic 46, 3) := by decide +kernel
theorem dX6_noCut_13 : decode cX6_noCut 13 = .ok (.ifCond .ne 7, 3) := by decide +kernel
theorem dX6_noCut_16 : decode cX6_noCut 16 = .ok (.iconst 1, 1) := by decide +kernel
theorem dX6_noCut_17 : decode cX6_noCut 17 = .ok (.goto 4, 3) := by decide +kernel
theorem dX6_noCut_20 : decode cX6_noCut 20 = .ok (.iconst 0, 1) := by decide +kernel
theorem dX6_noCut_21 : decode cX6_noCut 21 = .ok (.ireturn, 1) := by decide +kernel
theorem dX6_isRay_0 : decode cX6_isRay 0 = .ok (.aload_n 0, 1) := by decide +kernel
theorem dX6_isRay_1 : decode cX6_isRay 1 = .ok (.getfield 7, 3) := by decide +kernel
theorem dX6_isRay_4 : decode cX6_isRay 4 = .ok (.bipush 84, 2) := by decide +kernel
theorem dX6_isRay_6 : decode cX6_isRay 6 = .ok (.bipush 9, 2) := by decide +kernel
theorem dX6_isRay_8 : decode cX6_isRay 8 = .ok (.iload_n 1, 1) := by decide +kernel
theorem dX6_isRay_9 : decode cX6_isRay 9 = .ok (.imul, 1) := by decide +kernel
theorem dX6_isRay_10 : decode cX6_isRay 10 = .ok (.iadd, 1) := by decide +kernel
theorem dX6_isRay_11 : decode cX6_isRay 11 = .ok (.iaload, 1) := by decide +kernel
theorem dX6_isRay_12 : decode cX6_isRay 12 = .ok (.ifCond .lt 7, 3) := by decide +kernel
theorem dX6_isRay_15 : decode cX6_isRay 15 = .ok (.iconst 1, 1) := by decide +kernel
theorem dX6_isRay_16 : decode cX6_isRay 16 = .ok (.goto 4, 3) := by decide +kernel
theorem dX6_isRay_19 : decode cX6_isRay 19 = .ok (.iconst 0, 1) := by decide +kernel
theorem dX6_isRay_20 : decode cX6_isRay 20 = .ok (.ireturn, 1) := by decide +kernel
theorem dX6_weightOf_0 : decode cX6_weightOf 0 = .ok (.iconst 0, 1) := by decide +kernel
theorem dX6_weightOf_1 : decode cX6_weightOf 1 = .ok (.istore_n 3, 1) := by decide +kernel
theorem dX6_weightOf_2 : decode cX6_weightOf 2 = .ok (.iconst 0, 1) := by decide +kernel
theorem dX6_weightOf_3 : decode cX6_weightOf 3 = .ok (.istore 4, 2) := by decide +kernel
theorem dX6_weightOf_5 : decode cX6_weightOf 5 = .ok (.iload 4, 2) := by decide +kernel
theorem dX6_weightOf_7 : decode cX6_weightOf 7 = .ok (.aload_n 0, 1) := by decide +kernel
theorem dX6_weightOf_8 : decode cX6_weightOf 8 = .ok (.getfield 7, 3) := by decide +kernel
theorem dX6_weightOf_11 : decode cX6_weightOf 11 = .ok (.iconst 1, 1) := by decide +kernel
theorem dX6_weightOf_12 : decode cX6_weightOf 12 = .ok (.iaload, 1) := by decide +kernel
theorem dX6_weightOf_13 : decode cX6_weightOf 13 = .ok (.if_icmp .ge 65, 3) := by decide +kernel
theorem dX6_weightOf_16 : decode cX6_weightOf 16 = .ok (.aload_n 0, 1) := by decide +kernel
theorem dX6_weightOf_17 : decode cX6_weightOf 17 = .ok (.getfield 7, 3) := by decide +kernel
theorem dX6_weightOf_20 : decode cX6_weightOf 20 = .ok (.bipush 84, 2) := by decide +kernel
theorem dX6_weightOf_22 : decode cX6_weightOf 22 = .ok (.bipush 9, 2) := by decide +kernel
theorem dX6_weightOf_24 : decode cX6_weightOf 24 = .ok (.iload_n 1, 1) := by decide +kernel
theorem dX6_weightOf_25 : decode cX6_weightOf 25 = .ok (.imul, 1) := by decide +kernel
theorem dX6_weightOf_26 : decode cX6_weightOf 26 = .ok (.iadd, 1) := by decide +kernel
theorem dX6_weightOf_27 : decode cX6_weightOf 27 = .ok (.iconst 1, 1) := by decide +kernel
theorem dX6_weightOf_28 : decode cX6_weightOf 28 = .ok (.iadd, 1) := by decide +kernel
theorem dX6_weightOf_29 : decode cX6_weightOf 29 = .ok (.iload 4, 2) := by decide +kernel
theorem dX6_weightOf_31 : decode cX6_weightOf 31 = .ok (.iadd, 1) := by decide +kernel
theorem dX6_weightOf_32 : decode cX6_weightOf 32 = .ok (.iaload, 1) := by decide +kernel
theorem dX6_weightOf_33 : decode cX6_weightOf 33 = .ok (.aload_n 0, 1) := by decide +kernel
theorem dX6_weightOf_34 : decode cX6_weightOf 34 = .ok (.getfield 7, 3) := by decide +kernel
theorem dX6_weightOf_37 : decode cX6_weightOf 37 = .ok (.iload_n 2, 1) := by decide +kernel
theorem dX6_weightOf_38 : decode cX6_weightOf 38 = .ok (.iload 4, 2) := by decide +kernel
theorem dX6_weightOf_40 : decode cX6_weightOf 40 = .ok (.invokestatic 64, 3) := by decide +kernel
theorem dX6_weightOf_43 : decode cX6_weightOf 43 = .ok (.iaload, 1) := by decide +kernel
theorem dX6_weightOf_44 : decode cX6_weightOf 44 = .ok (.isub, 1) := by decide +kernel
theorem dX6_weightOf_45 : decode cX6_weightOf 45 = .ok (.istore 5, 2) := by decide +kernel
theorem dX6_weightOf_47 : decode cX6_weightOf 47 = .ok (.iload_n 3, 1) := by decide +kernel
theorem dX6_weightOf_48 : decode cX6_weightOf 48 = .ok (.iload 5, 2) := by decide +kernel
theorem dX6_weightOf_50 : decode cX6_weightOf 50 = .ok (.ifCond .le 19, 3) := by decide +kernel
theorem dX6_weightOf_53 : decode cX6_weightOf 53 = .ok (.aload_n 0, 1) := by decide +kernel
theorem dX6_weightOf_54 : decode cX6_weightOf 54 = .ok (.getfield 7, 3) := by decide +kernel
theorem dX6_weightOf_57 : decode cX6_weightOf 57 = .ok (.bipush 13, 2) := by decide +kernel
theorem dX6_weightOf_59 : decode cX6_weightOf 59 = .ok (.iload 4, 2) := by decide +kernel
theorem dX6_weightOf_61 : decode cX6_weightOf 61 = .ok (.iadd, 1) := by decide +kernel
theorem dX6_weightOf_62 : decode cX6_weightOf 62 = .ok (.iaload, 1) := by decide +kernel
theorem dX6_weightOf_63 : decode cX6_weightOf 63 = .ok (.iload 5, 2) := by decide +kernel
theorem dX6_weightOf_65 : decode cX6_weightOf 65 = .ok (.imul, 1) := by decide +kernel
theorem dX6_weightOf_66 : decode cX6_weightOf 66 = .ok (.goto 4, 3) := by decide +kernel
theorem dX6_weightOf_69 : decode cX6_weightOf 69 = .ok (.iconst 0, 1) := by decide +kernel
theorem dX6_weightOf_70 : decode cX6_weightOf 70 = .ok (.iadd, 1) := by decide +kernel
theorem dX6_weightOf_71 : decode cX6_weightOf 71 = .ok (.istore_n 3, 1) := by decide +kernel
theorem dX6_weightOf_72 : decode cX6_weightOf 72 = .ok (.iinc 4 1, 3) := by decide +kernel
theorem dX6_weightOf_75 : decode cX6_weightOf 75 = .ok (.goto (-70), 3) := by decide +kernel
theorem dX6_weightOf_78 : decode cX6_weightOf 78 = .ok (.iload_n 3, 1) := by decide +kernel
theorem dX6_weightOf_79 : decode cX6_weightOf 79 = .ok (.ireturn, 1) := by decide +kernel
theorem dX6_valueOf_0 : decode cX6_valueOf 0 = .ok (.iconst 0, 1) := by decide +kernel
theorem dX6_valueOf_1 : decode cX6_valueOf 1 = .ok (.istore_n 3, 1) := by decide +kernel
theorem dX6_valueOf_2 : decode cX6_valueOf 2 = .ok (.iconst 0, 1) := by decide +kernel
theorem dX6_valueOf_3 : decode cX6_valueOf 3 = .ok (.istore 4, 2) := by decide +kernel
theorem dX6_valueOf_5 : decode cX6_valueOf 5 = .ok (.iload 4, 2) := by decide +kernel
theorem dX6_valueOf_7 : decode cX6_valueOf 7 = .ok (.aload_n 0, 1) := by decide +kernel
theorem dX6_valueOf_8 : decode cX6_valueOf 8 = .ok (.getfield 7, 3) := by decide +kernel
theorem dX6_valueOf_11 : decode cX6_valueOf 11 = .ok (.iconst 1, 1) := by decide +kernel
theorem dX6_valueOf_12 : decode cX6_valueOf 12 = .ok (.iaload, 1) := by decide +kernel
theorem dX6_valueOf_13 : decode cX6_valueOf 13 = .ok (.if_icmp .ge 40, 3) := by decide +kernel
theorem dX6_valueOf_16 : decode cX6_valueOf 16 = .ok (.iload_n 3, 1) := by decide +kernel
theorem dX6_valueOf_17 : decode cX6_valueOf 17 = .ok (.aload_n 0, 1) := by decide +kernel
theorem dX6_valueOf_18 : decode cX6_valueOf 18 = .ok (.getfield 7, 3) := by decide +kernel
theorem dX6_valueOf_21 : decode cX6_valueOf 21 = .ok (.bipush 13, 2) := by decide +kernel
theorem dX6_valueOf_23 : decode cX6_valueOf 23 = .ok (.iload 4, 2) := by decide +kernel
theorem dX6_valueOf_25 : decode cX6_valueOf 25 = .ok (.iadd, 1) := by decide +kernel
theorem dX6_valueOf_26 : decode cX6_valueOf 26 = .ok (.iaload, 1) := by decide +kernel
theorem dX6_valueOf_27 : decode cX6_valueOf 27 = .ok (.aload_n 0, 1) := by decide +kernel
theorem dX6_valueOf_28 : decode cX6_valueOf 28 = .ok (.getfield 7, 3) := by decide +kernel
theorem dX6_valueOf_31 : decode cX6_valueOf 31 = .ok (.bipush 84, 2) := by decide +kernel
theorem dX6_valueOf_33 : decode cX6_valueOf 33 = .ok (.bipush 9, 2) := by decide +kernel
theorem dX6_valueOf_35 : decode cX6_valueOf 35 = .ok (.iload_n 1, 1) := by decide +kernel
theorem dX6_valueOf_36 : decode cX6_valueOf 36 = .ok (.imul, 1) := by decide +kernel
theorem dX6_valueOf_37 : decode cX6_valueOf 37 = .ok (.iadd, 1) := by decide +kernel
theorem dX6_valueOf_38 : decode cX6_valueOf 38 = .ok (.iconst 1, 1) := by decide +kernel
theorem dX6_valueOf_39 : decode cX6_valueOf 39 = .ok (.iadd, 1) := by decide +kernel
theorem dX6_valueOf_40 : decode cX6_valueOf 40 = .ok (.iload 4, 2) := by decide +kernel
theorem dX6_valueOf_42 : decode cX6_valueOf 42 = .ok (.iadd, 1) := by decide +kernel
theorem dX6_valueOf_43 : decode cX6_valueOf 43 = .ok (.iaload, 1) := by decide +kernel
theorem dX6_valueOf_44 : decode cX6_valueOf 44 = .ok (.imul, 1) := by decide +kernel
theorem dX6_valueOf_45 : decode cX6_valueOf 45 = .ok (.iadd, 1) := by decide +kernel
theorem dX6_valueOf_46 : decode cX6_valueOf 46 = .ok (.istore_n 3, 1) := by decide +kernel
theorem dX6_valueOf_47 : decode cX6_valueOf 47 = .ok (.iinc 4 1, 3) := by decide +kernel
theorem dX6_valueOf_50 : decode cX6_valueOf 50 = .ok (.goto (-45), 3) := by decide +kernel
theorem dX6_valueOf_53 : decode cX6_valueOf 53 = .ok (.iconst 0, 1) := by decide +kernel
theorem dX6_valueOf_54 : decode cX6_valueOf 54 = .ok (.istore 4, 2) := by decide +kernel
theorem dX6_valueOf_56 : decode cX6_valueOf 56 = .ok (.iload 4, 2) := by decide +kernel
theorem dX6_valueOf_58 : decode cX6_valueOf 58 = .ok (.aload_n 0, 1) := by decide +kernel
theorem dX6_valueOf_59 : decode cX6_valueOf 59 = .ok (.getfield 7, 3) := by decide +kernel
theorem dX6_valueOf_62 : decode cX6_valueOf 62 = .ok (.iconst 0, 1) := by decide +kernel
theorem dX6_valueOf_63 : decode cX6_valueOf 63 = .ok (.iaload, 1) := by decide +kernel
theorem dX6_valueOf_64 : decode cX6_valueOf 64 = .ok (.if_icmp .ge 32, 3) := by decide +kernel
theorem dX6_valueOf_67 : decode cX6_valueOf 67 = .ok (.iload_n 3, 1) := by decide +kernel
theorem dX6_valueOf_68 : decode cX6_valueOf 68 = .ok (.iload_n 2, 1) := by decide +kernel
theorem dX6_valueOf_69 : decode cX6_valueOf 69 = .ok (.iload 4, 2) := by decide +kernel
theorem dX6_valueOf_71 : decode cX6_valueOf 71 = .ok (.invokestatic 67, 3) := by decide +kernel
theorem dX6_valueOf_74 : decode cX6_valueOf 74 = .ok (.ifCond .eq 13, 3) := by decide +kernel
theorem dX6_valueOf_77 : decode cX6_valueOf 77 = .ok (.aload_n 0, 1) := by decide +kernel
theorem dX6_valueOf_78 : decode cX6_valueOf 78 = .ok (.iload_n 1, 1) := by decide +kernel
theorem dX6_valueOf_79 : decode cX6_valueOf 79 = .ok (.iload 4, 2) := by decide +kernel
theorem dX6_valueOf_81 : decode cX6_valueOf 81 = .ok (.invokevirtual 90, 3) := by decide +kernel
theorem dX6_valueOf_84 : decode cX6_valueOf 84 = .ok (.goto 4, 3) := by decide +kernel
theorem dX6_valueOf_87 : decode cX6_valueOf 87 = .ok (.iconst 0, 1) := by decide +kernel
theorem dX6_valueOf_88 : decode cX6_valueOf 88 = .ok (.isub, 1) := by decide +kernel
theorem dX6_valueOf_89 : decode cX6_valueOf 89 = .ok (.istore_n 3, 1) := by decide +kernel
theorem dX6_valueOf_90 : decode cX6_valueOf 90 = .ok (.iinc 4 1, 3) := by decide +kernel
theorem dX6_valueOf_93 : decode cX6_valueOf 93 = .ok (.goto (-37), 3) := by decide +kernel
theorem dX6_valueOf_96 : decode cX6_valueOf 96 = .ok (.iload_n 3, 1) := by decide +kernel
theorem dX6_valueOf_97 : decode cX6_valueOf 97 = .ok (.ireturn, 1) := by decide +kernel
theorem dX6_asked_0 : decode cX6_asked 0 = .ok (.iload_n 2, 1) := by decide +kernel
theorem dX6_asked_1 : decode cX6_asked 1 = .ok (.aload_n 0, 1) := by decide +kernel
theorem dX6_asked_2 : decode cX6_asked 2 = .ok (.aload_n 0, 1) := by decide +kernel
theorem dX6_asked_3 : decode cX6_asked 3 = .ok (.getfield 7, 3) := by decide +kernel
theorem dX6_asked_6 : decode cX6_asked 6 = .ok (.bipush 84, 2) := by decide +kernel
theorem dX6_asked_8 : decode cX6_asked 8 = .ok (.bipush 9, 2) := by decide +kernel
theorem dX6_asked_10 : decode cX6_asked 10 = .ok (.iload_n 1, 1) := by decide +kernel
theorem dX6_asked_11 : decode cX6_asked 11 = .ok (.imul, 1) := by decide +kernel
theorem dX6_asked_12 : decode cX6_asked 12 = .ok (.iadd, 1) := by decide +kernel
theorem dX6_asked_13 : decode cX6_asked 13 = .ok (.iaload, 1) := by decide +kernel
theorem dX6_asked_14 : decode cX6_asked 14 = .ok (.invokevirtual 78, 3) := by decide +kernel
theorem dX6_asked_17 : decode cX6_asked 17 = .ok (.iand, 1) := by decide +kernel
theorem dX6_asked_18 : decode cX6_asked 18 = .ok (.invokestatic 71, 3) := by decide +kernel
theorem dX6_asked_21 : decode cX6_asked 21 = .ok (.ireturn, 1) := by decide +kernel
theorem dX6_raysMissed_0 : decode cX6_raysMissed 0 = .ok (.iconst 0, 1) := by decide +kernel
theorem dX6_raysMissed_1 : decode cX6_raysMissed 1 = .ok (.istore_n 2, 1) := by decide +kernel
theorem dX6_raysMissed_2 : decode cX6_raysMissed 2 = .ok (.iconst 0, 1) := by decide +kernel
theorem dX6_raysMissed_3 : decode cX6_raysMissed 3 = .ok (.istore_n 3, 1) := by decide +kernel
theorem dX6_raysMissed_4 : decode cX6_raysMissed 4 = .ok (.iload_n 3, 1) := by decide +kernel
theorem dX6_raysMissed_5 : decode cX6_raysMissed 5 = .ok (.aload_n 0, 1) := by decide +kernel
theorem dX6_raysMissed_6 : decode cX6_raysMissed 6 = .ok (.getfield 7, 3) := by decide +kernel
theorem dX6_raysMissed_9 : decode cX6_raysMissed 9 = .ok (.iconst 3, 1) := by decide +kernel
theorem dX6_raysMissed_10 : decode cX6_raysMissed 10 = .ok (.iaload, 1) := by decide +kernel
theorem dX6_raysMissed_11 : decode cX6_raysMissed 11 = .ok (.if_icmp .ge 34, 3) := by decide +kernel
theorem dX6_raysMissed_14 : decode cX6_raysMissed 14 = .ok (.iload_n 2, 1) := by decide +kernel
theorem dX6_raysMissed_15 : decode cX6_raysMissed 15 = .ok (.aload_n 0, 1) := by decide +kernel
theorem dX6_raysMissed_16 : decode cX6_raysMissed 16 = .ok (.iload_n 3, 1) := by decide +kernel
theorem dX6_raysMissed_17 : decode cX6_raysMissed 17 = .ok (.invokevirtual 93, 3) := by decide +kernel
theorem dX6_raysMissed_20 : decode cX6_raysMissed 20 = .ok (.ifCond .eq 16, 3) := by decide +kernel
theorem dX6_raysMissed_23 : decode cX6_raysMissed 23 = .ok (.aload_n 0, 1) := by decide +kernel
theorem dX6_raysMissed_24 : decode cX6_raysMissed 24 = .ok (.iload_n 3, 1) := by decide +kernel
theorem dX6_raysMissed_25 : decode cX6_raysMissed 25 = .ok (.iload_n 1, 1) := by decide +kernel
theorem dX6_raysMissed_26 : decode cX6_raysMissed 26 = .ok (.invokevirtual 96, 3) := by decide +kernel
theorem dX6_raysMissed_29 : decode cX6_raysMissed 29 = .ok (.ifCond .ne 7, 3) := by decide +kernel
theorem dX6_raysMissed_32 : decode cX6_raysMissed 32 = .ok (.iconst 1, 1) := by decide +kernel
theorem dX6_raysMissed_33 : decode cX6_raysMissed 33 = .ok (.goto 4, 3) := by decide +kernel
theorem dX6_raysMissed_36 : decode cX6_raysMissed 36 = .ok (.iconst 0, 1) := by decide +kernel
theorem dX6_raysMissed_37 : decode cX6_raysMissed 37 = .ok (.iadd, 1) := by decide +kernel
theorem dX6_raysMissed_38 : decode cX6_raysMissed 38 = .ok (.istore_n 2, 1) := by decide +kernel
theorem dX6_raysMissed_39 : decode cX6_raysMissed 39 = .ok (.iinc 3 1, 3) := by decide +kernel
theorem dX6_raysMissed_42 : decode cX6_raysMissed 42 = .ok (.goto (-38), 3) := by decide +kernel
theorem dX6_raysMissed_45 : decode cX6_raysMissed 45 = .ok (.iload_n 2, 1) := by decide +kernel
theorem dX6_raysMissed_46 : decode cX6_raysMissed 46 = .ok (.ireturn, 1) := by decide +kernel
theorem dX6_guess_0 : decode cX6_guess 0 = .ok (.iconst 0, 1) := by decide +kernel
theorem dX6_guess_1 : decode cX6_guess 1 = .ok (.istore_n 2, 1) := by decide +kernel
theorem dX6_guess_2 : decode cX6_guess 2 = .ok (.iconst 0, 1) := by decide +kernel
theorem dX6_guess_3 : decode cX6_guess 3 = .ok (.istore_n 3, 1) := by decide +kernel
theorem dX6_guess_4 : decode cX6_guess 4 = .ok (.iload_n 3, 1) := by decide +kernel
theorem dX6_guess_5 : decode cX6_guess 5 = .ok (.aload_n 0, 1) := by decide +kernel
theorem dX6_guess_6 : decode cX6_guess 6 = .ok (.getfield 7, 3) := by decide +kernel
theorem dX6_guess_9 : decode cX6_guess 9 = .ok (.iconst 3, 1) := by decide +kernel
theorem dX6_guess_10 : decode cX6_guess 10 = .ok (.iaload, 1) := by decide +kernel
theorem dX6_guess_11 : decode cX6_guess 11 = .ok (.if_icmp .ge 42, 3) := by decide +kernel
theorem dX6_guess_14 : decode cX6_guess 14 = .ok (.aload_n 0, 1) := by decide +kernel
theorem dX6_guess_15 : decode cX6_guess 15 = .ok (.iload_n 3, 1) := by decide +kernel
theorem dX6_guess_16 : decode cX6_guess 16 = .ok (.invokevirtual 93, 3) := by decide +kernel
theorem dX6_guess_19 : decode cX6_guess 19 = .ok (.ifCond .eq 7, 3) := by decide +kernel
theorem dX6_guess_22 : decode cX6_guess 22 = .ok (.iconst 0, 1) := by decide +kernel
theorem dX6_guess_23 : decode cX6_guess 23 = .ok (.goto 9, 3) := by decide +kernel
theorem dX6_guess_26 : decode cX6_guess 26 = .ok (.aload_n 0, 1) := by decide +kernel
theorem dX6_guess_27 : decode cX6_guess 27 = .ok (.iload_n 3, 1) := by decide +kernel
theorem dX6_guess_28 : decode cX6_guess 28 = .ok (.iload_n 1, 1) := by decide +kernel
theorem dX6_guess_29 : decode cX6_guess 29 = .ok (.invokevirtual 99, 3) := by decide +kernel
theorem dX6_guess_32 : decode cX6_guess 32 = .ok (.istore 4, 2) := by decide +kernel
theorem dX6_guess_34 : decode cX6_guess 34 = .ok (.iload 4, 2) := by decide +kernel
theorem dX6_guess_36 : decode cX6_guess 36 = .ok (.iload_n 2, 1) := by decide +kernel
theorem dX6_guess_37 : decode cX6_guess 37 = .ok (.if_icmp .le 8, 3) := by decide +kernel
theorem dX6_guess_40 : decode cX6_guess 40 = .ok (.iload 4, 2) := by decide +kernel
theorem dX6_guess_42 : decode cX6_guess 42 = .ok (.goto 4, 3) := by decide +kernel
theorem dX6_guess_45 : decode cX6_guess 45 = .ok (.iload_n 2, 1) := by decide +kernel
theorem dX6_guess_46 : decode cX6_guess 46 = .ok (.istore_n 2, 1) := by decide +kernel
theorem dX6_guess_47 : decode cX6_guess 47 = .ok (.iinc 3 1, 3) := by decide +kernel
theorem dX6_guess_50 : decode cX6_guess 50 = .ok (.goto (-46), 3) := by decide +kernel
theorem dX6_guess_53 : decode cX6_guess 53 = .ok (.aload_n 0, 1) := by decide +kernel
theorem dX6_guess_54 : decode cX6_guess 54 = .ok (.iload_n 1, 1) := by decide +kernel
theorem dX6_guess_55 : decode cX6_guess 55 = .ok (.invokevirtual 102, 3) := by decide +kernel
theorem dX6_guess_58 : decode cX6_guess 58 = .ok (.iload_n 2, 1) := by decide +kernel
theorem dX6_guess_59 : decode cX6_guess 59 = .ok (.iadd, 1) := by decide +kernel
theorem dX6_guess_60 : decode cX6_guess 60 = .ok (.ireturn, 1) := by decide +kernel
theorem dX6_masterPlan_0 : decode cX6_masterPlan 0 = .ok (.bipush (-5), 2) := by decide +kernel
theorem dX6_masterPlan_2 : decode cX6_masterPlan 2 = .ok (.istore_n 1, 1) := by decide +kernel
theorem dX6_masterPlan_3 : decode cX6_masterPlan 3 = .ok (.iconst 0, 1) := by decide +kernel
theorem dX6_masterPlan_4 : decode cX6_masterPlan 4 = .ok (.istore_n 2, 1) := by decide +kernel
theorem dX6_masterPlan_5 : decode cX6_masterPlan 5 = .ok (.iconst 0, 1) := by decide +kernel
theorem dX6_masterPlan_6 : decode cX6_masterPlan 6 = .ok (.istore_n 3, 1) := by decide +kernel
theorem dX6_masterPlan_7 : decode cX6_masterPlan 7 = .ok (.iload_n 3, 1) := by decide +kernel
theorem dX6_masterPlan_8 : decode cX6_masterPlan 8 = .ok (.iconst 1, 1) := by decide +kernel
theorem dX6_masterPlan_9 : decode cX6_masterPlan 9 = .ok (.aload_n 0, 1) := by decide +kernel
theorem dX6_masterPlan_10 : decode cX6_masterPlan 10 = .ok (.getfield 7, 3) := by decide +kernel
theorem dX6_masterPlan_13 : decode cX6_masterPlan 13 = .ok (.iconst 0, 1) := by decide +kernel
theorem dX6_masterPlan_14 : decode cX6_masterPlan 14 = .ok (.iaload, 1) := by decide +kernel
theorem dX6_masterPlan_15 : decode cX6_masterPlan 15 = .ok (.ishl, 1) := by decide +kernel
theorem dX6_masterPlan_16 : decode cX6_masterPlan 16 = .ok (.if_icmp .ge 47, 3) := by decide +kernel
theorem dX6_masterPlan_19 : decode cX6_masterPlan 19 = .ok (.aload_n 0, 1) := by decide +kernel
theorem dX6_masterPlan_20 : decode cX6_masterPlan 20 = .ok (.iload_n 3, 1) := by decide +kernel
theorem dX6_masterPlan_21 : decode cX6_masterPlan 21 = .ok (.invokevirtual 84, 3) := by decide +kernel
theorem dX6_masterPlan_24 : decode cX6_masterPlan 24 = .ok (.ifCond .eq 33, 3) := by decide +kernel
theorem dX6_masterPlan_27 : decode cX6_masterPlan 27 = .ok (.aload_n 0, 1) := by decide +kernel
theorem dX6_masterPlan_28 : decode cX6_masterPlan 28 = .ok (.iload_n 3, 1) := by decide +kernel
theorem dX6_masterPlan_29 : decode cX6_masterPlan 29 = .ok (.invokevirtual 105, 3) := by decide +kernel
theorem dX6_masterPlan_32 : decode cX6_masterPlan 32 = .ok (.ifCond .ne 25, 3) := by decide +kernel
theorem dX6_masterPlan_35 : decode cX6_masterPlan 35 = .ok (.aload_n 0, 1) := by decide +kernel
theorem dX6_masterPlan_36 : decode cX6_masterPlan 36 = .ok (.iload_n 3, 1) := by decide +kernel
theorem dX6_masterPlan_37 : decode cX6_masterPlan 37 = .ok (.invokevirtual 108, 3) := by decide +kernel
theorem dX6_masterPlan_40 : decode cX6_masterPlan 40 = .ok (.istore 4, 2) := by decide +kernel
theorem dX6_masterPlan_42 : decode cX6_masterPlan 42 = .ok (.iload_n 1, 1) := by decide +kernel
theorem dX6_masterPlan_43 : decode cX6_masterPlan 43 = .ok (.ifCond .lt 9, 3) := by decide +kernel
theorem dX6_masterPlan_46 : decode cX6_masterPlan 46 = .ok (.iload 4, 2) := by decide +kernel
theorem dX6_masterPlan_48 : decode cX6_masterPlan 48 = .ok (.iload_n 2, 1) := by decide +kernel
theorem dX6_masterPlan_49 : decode cX6_masterPlan 49 = .ok (.if_icmp .ge 8, 3) := by decide +kernel
theorem dX6_masterPlan_52 : decode cX6_masterPlan 52 = .ok (.iload_n 3, 1) := by decide +kernel
theorem dX6_masterPlan_53 : decode cX6_masterPlan 53 = .ok (.istore_n 1, 1) := by decide +kernel
theorem dX6_masterPlan_54 : decode cX6_masterPlan 54 = .ok (.iload 4, 2) := by decide +kernel
theorem dX6_masterPlan_56 : decode cX6_masterPlan 56 = .ok (.istore_n 2, 1) := by decide +kernel
theorem dX6_masterPlan_57 : decode cX6_masterPlan 57 = .ok (.iinc 3 1, 3) := by decide +kernel
theorem dX6_masterPlan_60 : decode cX6_masterPlan 60 = .ok (.goto (-53), 3) := by decide +kernel
theorem dX6_masterPlan_63 : decode cX6_masterPlan 63 = .ok (.iload_n 1, 1) := by decide +kernel
theorem dX6_masterPlan_64 : decode cX6_masterPlan 64 = .ok (.ireturn, 1) := by decide +kernel
theorem dX6_makeStep_0 : decode cX6_makeStep 0 = .ok (.aload_n 0, 1) := by decide +kernel
theorem dX6_makeStep_1 : decode cX6_makeStep 1 = .ok (.getfield 7, 3) := by decide +kernel
theorem dX6_makeStep_4 : decode cX6_makeStep 4 = .ok (.iconst 1, 1) := by decide +kernel
theorem dX6_makeStep_5 : decode cX6_makeStep 5 = .ok (.iaload, 1) := by decide +kernel
theorem dX6_makeStep_6 : decode cX6_makeStep 6 = .ok (.ifCond .ne 8, 3) := by decide +kernel
theorem dX6_makeStep_9 : decode cX6_makeStep 9 = .ok (.bipush (-5), 2) := by decide +kernel
theorem dX6_makeStep_11 : decode cX6_makeStep 11 = .ok (.goto 7, 3) := by decide +kernel
theorem dX6_makeStep_14 : decode cX6_makeStep 14 = .ok (.aload_n 0, 1) := by decide +kernel
theorem dX6_makeStep_15 : decode cX6_makeStep 15 = .ok (.invokevirtual 111, 3) := by decide +kernel
theorem dX6_makeStep_18 : decode cX6_makeStep 18 = .ok (.istore_n 1, 1) := by decide +kernel
theorem dX6_makeStep_19 : decode cX6_makeStep 19 = .ok (.iload_n 1, 1) := by decide +kernel
theorem dX6_makeStep_20 : decode cX6_makeStep 20 = .ok (.ifCond .ge 6, 3) := by decide +kernel
theorem dX6_makeStep_23 : decode cX6_makeStep 23 = .ok (.bipush (-4), 2) := by decide +kernel
theorem dX6_makeStep_25 : decode cX6_makeStep 25 = .ok (.ireturn, 1) := by decide +kernel
theorem dX6_makeStep_26 : decode cX6_makeStep 26 = .ok (.aload_n 0, 1) := by decide +kernel
theorem dX6_makeStep_27 : decode cX6_makeStep 27 = .ok (.iload_n 1, 1) := by decide +kernel
theorem dX6_makeStep_28 : decode cX6_makeStep 28 = .ok (.invokevirtual 87, 3) := by decide +kernel
theorem dX6_makeStep_31 : decode cX6_makeStep 31 = .ok (.istore_n 2, 1) := by decide +kernel
theorem dX6_makeStep_32 : decode cX6_makeStep 32 = .ok (.iload_n 2, 1) := by decide +kernel
theorem dX6_makeStep_33 : decode cX6_makeStep 33 = .ok (.ifCond .ge 17, 3) := by decide +kernel
theorem dX6_makeStep_36 : decode cX6_makeStep 36 = .ok (.aload_n 0, 1) := by decide +kernel
theorem dX6_makeStep_37 : decode cX6_makeStep 37 = .ok (.iload_n 1, 1) := by decide +kernel
theorem dX6_makeStep_38 : decode cX6_makeStep 38 = .ok (.invokevirtual 102, 3) := by decide +kernel
theorem dX6_makeStep_41 : decode cX6_makeStep 41 = .ok (.aload_n 0, 1) := by decide +kernel
theorem dX6_makeStep_42 : decode cX6_makeStep 42 = .ok (.iload_n 1, 1) := by decide +kernel
theorem dX6_makeStep_43 : decode cX6_makeStep 43 = .ok (.invokevirtual 115, 3) := by decide +kernel
theorem dX6_makeStep_46 : decode cX6_makeStep 46 = .ok (.iadd, 1) := by decide +kernel
theorem dX6_makeStep_47 : decode cX6_makeStep 47 = .ok (.goto 4, 3) := by decide +kernel
theorem dX6_makeStep_50 : decode cX6_makeStep 50 = .ok (.iconst 0, 1) := by decide +kernel
theorem dX6_makeStep_51 : decode cX6_makeStep 51 = .ok (.istore_n 3, 1) := by decide +kernel
theorem dX6_makeStep_52 : decode cX6_makeStep 52 = .ok (.iload_n 2, 1) := by decide +kernel
theorem dX6_makeStep_53 : decode cX6_makeStep 53 = .ok (.ifCond .ge 16, 3) := by decide +kernel
theorem dX6_makeStep_56 : decode cX6_makeStep 56 = .ok (.iload_n 3, 1) := by decide +kernel
theorem dX6_makeStep_57 : decode cX6_makeStep 57 = .ok (.aload_n 0, 1) := by decide +kernel
theorem dX6_makeStep_58 : decode cX6_makeStep 58 = .ok (.iload_n 1, 1) := by decide +kernel
theorem dX6_makeStep_59 : decode cX6_makeStep 59 = .ok (.invokevirtual 108, 3) := by decide +kernel
theorem dX6_makeStep_62 : decode cX6_makeStep 62 = .ok (.if_icmp .ne 7, 3) := by decide +kernel
theorem dX6_makeStep_65 : decode cX6_makeStep 65 = .ok (.iconst 1, 1) := by decide +kernel
theorem dX6_makeStep_66 : decode cX6_makeStep 66 = .ok (.goto 4, 3) := by decide +kernel
theorem dX6_makeStep_69 : decode cX6_makeStep 69 = .ok (.iconst 0, 1) := by decide +kernel
theorem dX6_makeStep_70 : decode cX6_makeStep 70 = .ok (.istore 4, 2) := by decide +kernel
theorem dX6_makeStep_72 : decode cX6_makeStep 72 = .ok (.iload 4, 2) := by decide +kernel
theorem dX6_makeStep_74 : decode cX6_makeStep 74 = .ok (.ifCond .ne 17, 3) := by decide +kernel
theorem dX6_makeStep_77 : decode cX6_makeStep 77 = .ok (.aload_n 0, 1) := by decide +kernel
theorem dX6_makeStep_78 : decode cX6_makeStep 78 = .ok (.getfield 7, 3) := by decide +kernel
theorem dX6_makeStep_81 : decode cX6_makeStep 81 = .ok (.iconst 3, 1) := by decide +kernel
theorem dX6_makeStep_82 : decode cX6_makeStep 82 = .ok (.iaload, 1) := by decide +kernel
theorem dX6_makeStep_83 : decode cX6_makeStep 83 = .ok (.bipush 40, 2) := by decide +kernel
theorem dX6_makeStep_85 : decode cX6_makeStep 85 = .ok (.if_icmp .ne 6, 3) := by decide +kernel
theorem dX6_makeStep_88 : decode cX6_makeStep 88 = .ok (.bipush (-3), 2) := by decide +kernel
theorem dX6_makeStep_90 : decode cX6_makeStep 90 = .ok (.ireturn, 1) := by decide +kernel
theorem dX6_makeStep_91 : decode cX6_makeStep 91 = .ok (.aload_n 0, 1) := by decide +kernel
theorem dX6_makeStep_92 : decode cX6_makeStep 92 = .ok (.getfield 7, 3) := by decide +kernel
theorem dX6_makeStep_95 : decode cX6_makeStep 95 = .ok (.iconst 5, 1) := by decide +kernel
theorem dX6_makeStep_96 : decode cX6_makeStep 96 = .ok (.dup2, 1) := by decide +kernel
theorem dX6_makeStep_97 : decode cX6_makeStep 97 = .ok (.iaload, 1) := by decide +kernel
theorem dX6_makeStep_98 : decode cX6_makeStep 98 = .ok (.iconst 1, 1) := by decide +kernel
theorem dX6_makeStep_99 : decode cX6_makeStep 99 = .ok (.iadd, 1) := by decide +kernel
theorem dX6_makeStep_100 : decode cX6_makeStep 100 = .ok (.iastore, 1) := by decide +kernel
theorem dX6_makeStep_101 : decode cX6_makeStep 101 = .ok (.iload_n 2, 1) := by decide +kernel
theorem dX6_makeStep_102 : decode cX6_makeStep 102 = .ok (.ifCond .ge 44, 3) := by decide +kernel
theorem dX6_makeStep_105 : decode cX6_makeStep 105 = .ok (.aload_n 0, 1) := by decide +kernel
theorem dX6_makeStep_106 : decode cX6_makeStep 106 = .ok (.getfield 7, 3) := by decide +kernel
theorem dX6_makeStep_109 : decode cX6_makeStep 109 = .ok (.iconst 4, 1) := by decide +kernel
theorem dX6_makeStep_110 : decode cX6_makeStep 110 = .ok (.iaload, 1) := by decide +kernel
theorem dX6_makeStep_111 : decode cX6_makeStep 111 = .ok (.ifCond .lt 28, 3) := by decide +kernel
theorem dX6_makeStep_114 : decode cX6_makeStep 114 = .ok (.iload_n 3, 1) := by decide +kernel
theorem dX6_makeStep_115 : decode cX6_makeStep 115 = .ok (.aload_n 0, 1) := by decide +kernel
theorem dX6_makeStep_116 : decode cX6_makeStep 116 = .ok (.aload_n 0, 1) := by decide +kernel
theorem dX6_makeStep_117 : decode cX6_makeStep 117 = .ok (.getfield 7, 3) := by decide +kernel
theorem dX6_makeStep_120 : decode cX6_makeStep 120 = .ok (.iconst 4, 1) := by decide +kernel
theorem dX6_makeStep_121 : decode cX6_makeStep 121 = .ok (.iaload, 1) := by decide +kernel
theorem dX6_makeStep_122 : decode cX6_makeStep 122 = .ok (.invokevirtual 102, 3) := by decide +kernel
theorem dX6_makeStep_125 : decode cX6_makeStep 125 = .ok (.aload_n 0, 1) := by decide +kernel
theorem dX6_makeStep_126 : decode cX6_makeStep 126 = .ok (.aload_n 0, 1) := by decide +kernel
theorem dX6_makeStep_127 : decode cX6_makeStep 127 = .ok (.getfield 7, 3) := by decide +kernel
theorem dX6_makeStep_130 : decode cX6_makeStep 130 = .ok (.iconst 4, 1) := by decide +kernel
theorem dX6_makeStep_131 : decode cX6_makeStep 131 = .ok (.iaload, 1) := by decide +kernel
theorem dX6_makeStep_132 : decode cX6_makeStep 132 = .ok (.invokevirtual 115, 3) := by decide +kernel
theorem dX6_makeStep_135 : decode cX6_makeStep 135 = .ok (.iadd, 1) := by decide +kernel
theorem dX6_makeStep_136 : decode cX6_makeStep 136 = .ok (.if_icmp .ge 10, 3) := by decide +kernel
theorem dX6_makeStep_139 : decode cX6_makeStep 139 = .ok (.aload_n 0, 1) := by decide +kernel
theorem dX6_makeStep_140 : decode cX6_makeStep 140 = .ok (.getfield 7, 3) := by decide +kernel
theorem dX6_makeStep_143 : decode cX6_makeStep 143 = .ok (.iconst 4, 1) := by decide +kernel
theorem dX6_makeStep_144 : decode cX6_makeStep 144 = .ok (.iload_n 1, 1) := by decide +kernel
theorem dX6_makeStep_145 : decode cX6_makeStep 145 = .ok (.iastore, 1) := by decide +kernel
theorem dX6_makeStep_146 : decode cX6_makeStep 146 = .ok (.iload 4, 2) := by decide +kernel
theorem dX6_makeStep_148 : decode cX6_makeStep 148 = .ok (.ifCond .eq 5, 3) := by decide +kernel
theorem dX6_makeStep_151 : decode cX6_makeStep 151 = .ok (.iconst 2, 1) := by decide +kernel
theorem dX6_makeStep_152 : decode cX6_makeStep 152 = .ok (.ireturn, 1) := by decide +kernel
theorem dX6_makeStep_153 : decode cX6_makeStep 153 = .ok (.bipush 84, 2) := by decide +kernel
theorem dX6_makeStep_155 : decode cX6_makeStep 155 = .ok (.bipush 9, 2) := by decide +kernel
theorem dX6_makeStep_157 : decode cX6_makeStep 157 = .ok (.aload_n 0, 1) := by decide +kernel
theorem dX6_makeStep_158 : decode cX6_makeStep 158 = .ok (.getfield 7, 3) := by decide +kernel
theorem dX6_makeStep_161 : decode cX6_makeStep 161 = .ok (.iconst 3, 1) := by decide +kernel
theorem dX6_makeStep_162 : decode cX6_makeStep 162 = .ok (.iaload, 1) := by decide +kernel
theorem dX6_makeStep_163 : decode cX6_makeStep 163 = .ok (.imul, 1) := by decide +kernel
theorem dX6_makeStep_164 : decode cX6_makeStep 164 = .ok (.iadd, 1) := by decide +kernel
theorem dX6_makeStep_165 : decode cX6_makeStep 165 = .ok (.istore 5, 2) := by decide +kernel
theorem dX6_makeStep_167 : decode cX6_makeStep 167 = .ok (.aload_n 0, 1) := by decide +kernel
theorem dX6_makeStep_168 : decode cX6_makeStep 168 = .ok (.getfield 7, 3) := by decide +kernel
theorem dX6_makeStep_171 : decode cX6_makeStep 171 = .ok (.iload 5, 2) := by decide +kernel
theorem dX6_makeStep_173 : decode cX6_makeStep 173 = .ok (.iload_n 2, 1) := by decide +kernel
theorem dX6_makeStep_174 : decode cX6_makeStep 174 = .ok (.iastore, 1) := by decide +kernel
theorem dX6_makeStep_175 : decode cX6_makeStep 175 = .ok (.iconst 0, 1) := by decide +kernel
theorem dX6_makeStep_176 : decode cX6_makeStep 176 = .ok (.istore 6, 2) := by decide +kernel
theorem dX6_makeStep_178 : decode cX6_makeStep 178 = .ok (.iload 6, 2) := by decide +kernel
theorem dX6_makeStep_180 : decode cX6_makeStep 180 = .ok (.aload_n 0, 1) := by decide +kernel
theorem dX6_makeStep_181 : decode cX6_makeStep 181 = .ok (.getfield 7, 3) := by decide +kernel
theorem dX6_makeStep_184 : decode cX6_makeStep 184 = .ok (.iconst 1, 1) := by decide +kernel
theorem dX6_makeStep_185 : decode cX6_makeStep 185 = .ok (.iaload, 1) := by decide +kernel
theorem dX6_makeStep_186 : decode cX6_makeStep 186 = .ok (.if_icmp .ge 46, 3) := by decide +kernel
theorem dX6_makeStep_189 : decode cX6_makeStep 189 = .ok (.aload_n 0, 1) := by decide +kernel
theorem dX6_makeStep_190 : decode cX6_makeStep 190 = .ok (.getfield 7, 3) := by decide +kernel
theorem dX6_makeStep_193 : decode cX6_makeStep 193 = .ok (.iload 5, 2) := by decide +kernel
theorem dX6_makeStep_195 : decode cX6_makeStep 195 = .ok (.iconst 1, 1) := by decide +kernel
theorem dX6_makeStep_196 : decode cX6_makeStep 196 = .ok (.iadd, 1) := by decide +kernel
theorem dX6_makeStep_197 : decode cX6_makeStep 197 = .ok (.iload 6, 2) := by decide +kernel
theorem dX6_makeStep_199 : decode cX6_makeStep 199 = .ok (.iadd, 1) := by decide +kernel
theorem dX6_makeStep_200 : decode cX6_makeStep 200 = .ok (.iload_n 2, 1) := by decide +kernel
theorem dX6_makeStep_201 : decode cX6_makeStep 201 = .ok (.ifCond .ge 23, 3) := by decide +kernel
theorem dX6_makeStep_204 : decode cX6_makeStep 204 = .ok (.aload_n 0, 1) := by decide +kernel
theorem dX6_makeStep_205 : decode cX6_makeStep 205 = .ok (.getfield 7, 3) := by decide +kernel
theorem dX6_makeStep_208 : decode cX6_makeStep 208 = .ok (.aload_n 0, 1) := by decide +kernel
theorem dX6_makeStep_209 : decode cX6_makeStep 209 = .ok (.iload_n 1, 1) := by decide +kernel
theorem dX6_makeStep_210 : decode cX6_makeStep 210 = .ok (.iload 6, 2) := by decide +kernel
theorem dX6_makeStep_212 : decode cX6_makeStep 212 = .ok (.invokevirtual 81, 3) := by decide +kernel
theorem dX6_makeStep_215 : decode cX6_makeStep 215 = .ok (.iload 6, 2) := by decide +kernel
theorem dX6_makeStep_217 : decode cX6_makeStep 217 = .ok (.invokestatic 64, 3) := by decide +kernel
theorem dX6_makeStep_220 : decode cX6_makeStep 220 = .ok (.iaload, 1) := by decide +kernel
theorem dX6_makeStep_221 : decode cX6_makeStep 221 = .ok (.goto 4, 3) := by decide +kernel
theorem dX6_makeStep_224 : decode cX6_makeStep 224 = .ok (.iconst 0, 1) := by decide +kernel
theorem dX6_makeStep_225 : decode cX6_makeStep 225 = .ok (.iastore, 1) := by decide +kernel
theorem dX6_makeStep_226 : decode cX6_makeStep 226 = .ok (.iinc 6 1, 3) := by decide +kernel
theorem dX6_makeStep_229 : decode cX6_makeStep 229 = .ok (.goto (-51), 3) := by decide +kernel
theorem dX6_makeStep_232 : decode cX6_makeStep 232 = .ok (.aload_n 0, 1) := by decide +kernel
theorem dX6_makeStep_233 : decode cX6_makeStep 233 = .ok (.getfield 7, 3) := by decide +kernel
theorem dX6_makeStep_236 : decode cX6_makeStep 236 = .ok (.iconst 3, 1) := by decide +kernel
theorem dX6_makeStep_237 : decode cX6_makeStep 237 = .ok (.dup2, 1) := by decide +kernel
theorem dX6_makeStep_238 : decode cX6_makeStep 238 = .ok (.iaload, 1) := by decide +kernel
theorem dX6_makeStep_239 : decode cX6_makeStep 239 = .ok (.iconst 1, 1) := by decide +kernel
theorem dX6_makeStep_240 : decode cX6_makeStep 240 = .ok (.iadd, 1) := by decide +kernel
theorem dX6_makeStep_241 : decode cX6_makeStep 241 = .ok (.iastore, 1) := by decide +kernel
theorem dX6_makeStep_242 : decode cX6_makeStep 242 = .ok (.iload_n 2, 1) := by decide +kernel
theorem dX6_makeStep_243 : decode cX6_makeStep 243 = .ok (.ifCond .ge 7, 3) := by decide +kernel
theorem dX6_makeStep_246 : decode cX6_makeStep 246 = .ok (.iconst 1, 1) := by decide +kernel
theorem dX6_makeStep_247 : decode cX6_makeStep 247 = .ok (.goto 4, 3) := by decide +kernel
theorem dX6_makeStep_250 : decode cX6_makeStep 250 = .ok (.iconst 0, 1) := by decide +kernel
theorem dX6_makeStep_251 : decode cX6_makeStep 251 = .ok (.ireturn, 1) := by decide +kernel
theorem dX6_step_0 : decode cX6_step 0 = .ok (.aload_n 0, 1) := by decide +kernel
theorem dX6_step_1 : decode cX6_step 1 = .ok (.invokevirtual 33, 3) := by decide +kernel
theorem dX6_step_4 : decode cX6_step 4 = .ok (.aload_n 0, 1) := by decide +kernel
theorem dX6_step_5 : decode cX6_step 5 = .ok (.invokevirtual 118, 3) := by decide +kernel
theorem dX6_step_8 : decode cX6_step 8 = .ok (.istore_n 1, 1) := by decide +kernel
theorem dX6_step_9 : decode cX6_step 9 = .ok (.iload_n 1, 1) := by decide +kernel
theorem dX6_step_10 : decode cX6_step 10 = .ok (.ifCond .lt 7, 3) := by decide +kernel
theorem dX6_step_13 : decode cX6_step 13 = .ok (.aload_n 0, 1) := by decide +kernel
theorem dX6_step_14 : decode cX6_step 14 = .ok (.invokevirtual 36, 3) := by decide +kernel
theorem dX6_step_17 : decode cX6_step 17 = .ok (.iload_n 1, 1) := by decide +kernel
theorem dX6_step_18 : decode cX6_step 18 = .ok (.ireturn, 1) := by decide +kernel
theorem dX6_solve_0 : decode cX6_solve 0 = .ok (.aload_n 0, 1) := by decide +kernel
theorem dX6_solve_1 : decode cX6_solve 1 = .ok (.invokevirtual 33, 3) := by decide +kernel
theorem dX6_solve_4 : decode cX6_solve 4 = .ok (.aload_n 0, 1) := by decide +kernel
theorem dX6_solve_5 : decode cX6_solve 5 = .ok (.getfield 7, 3) := by decide +kernel
theorem dX6_solve_8 : decode cX6_solve 8 = .ok (.iconst 3, 1) := by decide +kernel
theorem dX6_solve_9 : decode cX6_solve 9 = .ok (.iaload, 1) := by decide +kernel
theorem dX6_solve_10 : decode cX6_solve 10 = .ok (.istore_n 1, 1) := by decide +kernel
theorem dX6_solve_11 : decode cX6_solve 11 = .ok (.iconst 0, 1) := by decide +kernel
theorem dX6_solve_12 : decode cX6_solve 12 = .ok (.istore_n 2, 1) := by decide +kernel
theorem dX6_solve_13 : decode cX6_solve 13 = .ok (.aload_n 0, 1) := by decide +kernel
theorem dX6_solve_14 : decode cX6_solve 14 = .ok (.invokevirtual 118, 3) := by decide +kernel
theorem dX6_solve_17 : decode cX6_solve 17 = .ok (.istore_n 3, 1) := by decide +kernel
theorem dX6_solve_18 : decode cX6_solve 18 = .ok (.iload_n 3, 1) := by decide +kernel
theorem dX6_solve_19 : decode cX6_solve 19 = .ok (.ifCond .lt 19, 3) := by decide +kernel
theorem dX6_solve_22 : decode cX6_solve 22 = .ok (.iload_n 3, 1) := by decide +kernel
theorem dX6_solve_23 : decode cX6_solve 23 = .ok (.iconst 2, 1) := by decide +kernel
theorem dX6_solve_24 : decode cX6_solve 24 = .ok (.if_icmp .eq 14, 3) := by decide +kernel
theorem dX6_solve_27 : decode cX6_solve 27 = .ok (.iinc 2 1, 3) := by decide +kernel
theorem dX6_solve_30 : decode cX6_solve 30 = .ok (.aload_n 0, 1) := by decide +kernel
theorem dX6_solve_31 : decode cX6_solve 31 = .ok (.invokevirtual 118, 3) := by decide +kernel
theorem dX6_solve_34 : decode cX6_solve 34 = .ok (.istore_n 3, 1) := by decide +kernel
theorem dX6_solve_35 : decode cX6_solve 35 = .ok (.goto (-17), 3) := by decide +kernel
theorem dX6_solve_38 : decode cX6_solve 38 = .ok (.iload_n 3, 1) := by decide +kernel
theorem dX6_solve_39 : decode cX6_solve 39 = .ok (.bipush (-3), 2) := by decide +kernel
theorem dX6_solve_41 : decode cX6_solve 41 = .ok (.if_icmp .eq 13, 3) := by decide +kernel
theorem dX6_solve_44 : decode cX6_solve 44 = .ok (.iload_n 3, 1) := by decide +kernel
theorem dX6_solve_45 : decode cX6_solve 45 = .ok (.bipush (-4), 2) := by decide +kernel
theorem dX6_solve_47 : decode cX6_solve 47 = .ok (.if_icmp .ne 13, 3) := by decide +kernel
theorem dX6_solve_50 : decode cX6_solve 50 = .ok (.iload_n 2, 1) := by decide +kernel
theorem dX6_solve_51 : decode cX6_solve 51 = .ok (.ifCond .ne 9, 3) := by decide +kernel
theorem dX6_solve_54 : decode cX6_solve 54 = .ok (.aload_n 0, 1) := by decide +kernel
theorem dX6_solve_55 : decode cX6_solve 55 = .ok (.invokevirtual 121, 3) := by decide +kernel
theorem dX6_solve_58 : decode cX6_solve 58 = .ok (.iload_n 3, 1) := by decide +kernel
theorem dX6_solve_59 : decode cX6_solve 59 = .ok (.ireturn, 1) := by decide +kernel
theorem dX6_solve_60 : decode cX6_solve 60 = .ok (.aload_n 0, 1) := by decide +kernel
theorem dX6_solve_61 : decode cX6_solve 61 = .ok (.invokevirtual 36, 3) := by decide +kernel
theorem dX6_solve_64 : decode cX6_solve 64 = .ok (.aload_n 0, 1) := by decide +kernel
theorem dX6_solve_65 : decode cX6_solve 65 = .ok (.getfield 7, 3) := by decide +kernel
theorem dX6_solve_68 : decode cX6_solve 68 = .ok (.iconst 3, 1) := by decide +kernel
theorem dX6_solve_69 : decode cX6_solve 69 = .ok (.iaload, 1) := by decide +kernel
theorem dX6_solve_70 : decode cX6_solve 70 = .ok (.iload_n 1, 1) := by decide +kernel
theorem dX6_solve_71 : decode cX6_solve 71 = .ok (.isub, 1) := by decide +kernel
theorem dX6_solve_72 : decode cX6_solve 72 = .ok (.ireturn, 1) := by decide +kernel
theorem dX6_dropOne_0 : decode cX6_dropOne 0 = .ok (.bipush 84, 2) := by decide +kernel
theorem dX6_dropOne_2 : decode cX6_dropOne 2 = .ok (.bipush 9, 2) := by decide +kernel
theorem dX6_dropOne_4 : decode cX6_dropOne 4 = .ok (.iload_n 1, 1) := by decide +kernel
theorem dX6_dropOne_5 : decode cX6_dropOne 5 = .ok (.imul, 1) := by decide +kernel
theorem dX6_dropOne_6 : decode cX6_dropOne 6 = .ok (.iadd, 1) := by decide +kernel
theorem dX6_dropOne_7 : decode cX6_dropOne 7 = .ok (.istore_n 2, 1) := by decide +kernel
theorem dX6_dropOne_8 : decode cX6_dropOne 8 = .ok (.iload_n 2, 1) := by decide +kernel
theorem dX6_dropOne_9 : decode cX6_dropOne 9 = .ok (.sipush 444, 3) := by decide +kernel
theorem dX6_dropOne_12 : decode cX6_dropOne 12 = .ok (.if_icmp .ge 38, 3) := by decide +kernel
theorem dX6_dropOne_15 : decode cX6_dropOne 15 = .ok (.aload_n 0, 1) := by decide +kernel
theorem dX6_dropOne_16 : decode cX6_dropOne 16 = .ok (.getfield 7, 3) := by decide +kernel
theorem dX6_dropOne_19 : decode cX6_dropOne 19 = .ok (.iload_n 2, 1) := by decide +kernel
theorem dX6_dropOne_20 : decode cX6_dropOne 20 = .ok (.iload_n 2, 1) := by decide +kernel
theorem dX6_dropOne_21 : decode cX6_dropOne 21 = .ok (.bipush 9, 2) := by decide +kernel
theorem dX6_dropOne_23 : decode cX6_dropOne 23 = .ok (.iadd, 1) := by decide +kernel
theorem dX6_dropOne_24 : decode cX6_dropOne 24 = .ok (.sipush 444, 3) := by decide +kernel
theorem dX6_dropOne_27 : decode cX6_dropOne 27 = .ok (.if_icmp .ge 15, 3) := by decide +kernel
theorem dX6_dropOne_30 : decode cX6_dropOne 30 = .ok (.aload_n 0, 1) := by decide +kernel
theorem dX6_dropOne_31 : decode cX6_dropOne 31 = .ok (.getfield 7, 3) := by decide +kernel
theorem dX6_dropOne_34 : decode cX6_dropOne 34 = .ok (.iload_n 2, 1) := by decide +kernel
theorem dX6_dropOne_35 : decode cX6_dropOne 35 = .ok (.bipush 9, 2) := by decide +kernel
theorem dX6_dropOne_37 : decode cX6_dropOne 37 = .ok (.iadd, 1) := by decide +kernel
theorem dX6_dropOne_38 : decode cX6_dropOne 38 = .ok (.iaload, 1) := by decide +kernel
theorem dX6_dropOne_39 : decode cX6_dropOne 39 = .ok (.goto 4, 3) := by decide +kernel
theorem dX6_dropOne_42 : decode cX6_dropOne 42 = .ok (.iconst 0, 1) := by decide +kernel
theorem dX6_dropOne_43 : decode cX6_dropOne 43 = .ok (.iastore, 1) := by decide +kernel
theorem dX6_dropOne_44 : decode cX6_dropOne 44 = .ok (.iinc 2 1, 3) := by decide +kernel
theorem dX6_dropOne_47 : decode cX6_dropOne 47 = .ok (.goto (-39), 3) := by decide +kernel
theorem dX6_dropOne_50 : decode cX6_dropOne 50 = .ok (.aload_n 0, 1) := by decide +kernel
theorem dX6_dropOne_51 : decode cX6_dropOne 51 = .ok (.getfield 7, 3) := by decide +kernel
theorem dX6_dropOne_54 : decode cX6_dropOne 54 = .ok (.iconst 3, 1) := by decide +kernel
theorem dX6_dropOne_55 : decode cX6_dropOne 55 = .ok (.dup2, 1) := by decide +kernel
theorem dX6_dropOne_56 : decode cX6_dropOne 56 = .ok (.iaload, 1) := by decide +kernel
theorem dX6_dropOne_57 : decode cX6_dropOne 57 = .ok (.iconst 1, 1) := by decide +kernel
theorem dX6_dropOne_58 : decode cX6_dropOne 58 = .ok (.isub, 1) := by decide +kernel
theorem dX6_dropOne_59 : decode cX6_dropOne 59 = .ok (.iastore, 1) := by decide +kernel
theorem dX6_dropOne_60 : decode cX6_dropOne 60 = .ok (.return_, 1) := by decide +kernel
theorem dX6_drop_0 : decode cX6_drop 0 = .ok (.aload_n 0, 1) := by decide +kernel
theorem dX6_drop_1 : decode cX6_drop 1 = .ok (.iload_n 1, 1) := by decide +kernel
theorem dX6_drop_2 : decode cX6_drop 2 = .ok (.invokevirtual 124, 3) := by decide +kernel
theorem dX6_drop_5 : decode cX6_drop 5 = .ok (.ifCond .eq 5, 3) := by decide +kernel
theorem dX6_drop_8 : decode cX6_drop 8 = .ok (.iconst (-1), 1) := by decide +kernel
theorem dX6_drop_9 : decode cX6_drop 9 = .ok (.ireturn, 1) := by decide +kernel
theorem dX6_drop_10 : decode cX6_drop 10 = .ok (.aload_n 0, 1) := by decide +kernel
theorem dX6_drop_11 : decode cX6_drop 11 = .ok (.invokevirtual 43, 3) := by decide +kernel
theorem dX6_drop_14 : decode cX6_drop 14 = .ok (.aload_n 0, 1) := by decide +kernel
theorem dX6_drop_15 : decode cX6_drop 15 = .ok (.iload_n 1, 1) := by decide +kernel
theorem dX6_drop_16 : decode cX6_drop 16 = .ok (.invokevirtual 127, 3) := by decide +kernel
theorem dX6_drop_19 : decode cX6_drop 19 = .ok (.aload_n 0, 1) := by decide +kernel
theorem dX6_drop_20 : decode cX6_drop 20 = .ok (.getfield 7, 3) := by decide +kernel
theorem dX6_drop_23 : decode cX6_drop 23 = .ok (.iconst 3, 1) := by decide +kernel
theorem dX6_drop_24 : decode cX6_drop 24 = .ok (.iaload, 1) := by decide +kernel
theorem dX6_drop_25 : decode cX6_drop 25 = .ok (.ireturn, 1) := by decide +kernel
theorem dX6_isLoose_0 : decode cX6_isLoose 0 = .ok (.aload_n 0, 1) := by decide +kernel
theorem dX6_isLoose_1 : decode cX6_isLoose 1 = .ok (.iload_n 1, 1) := by decide +kernel
theorem dX6_isLoose_2 : decode cX6_isLoose 2 = .ok (.invokevirtual 93, 3) := by decide +kernel
theorem dX6_isLoose_5 : decode cX6_isLoose 5 = .ok (.ifCond .eq 21, 3) := by decide +kernel
theorem dX6_isLoose_8 : decode cX6_isLoose 8 = .ok (.aload_n 0, 1) := by decide +kernel
theorem dX6_isLoose_9 : decode cX6_isLoose 9 = .ok (.iload_n 1, 1) := by decide +kernel
theorem dX6_isLoose_10 : decode cX6_isLoose 10 = .ok (.iload_n 2, 1) := by decide +kernel
theorem dX6_isLoose_11 : decode cX6_isLoose 11 = .ok (.invokevirtual 96, 3) := by decide +kernel
theorem dX6_isLoose_14 : decode cX6_isLoose 14 = .ok (.iconst 1, 1) := by decide +kernel
theorem dX6_isLoose_15 : decode cX6_isLoose 15 = .ok (.if_icmp .le 7, 3) := by decide +kernel
theorem dX6_isLoose_18 : decode cX6_isLoose 18 = .ok (.iconst 1, 1) := by decide +kernel
theorem dX6_isLoose_19 : decode cX6_isLoose 19 = .ok (.goto 22, 3) := by decide +kernel
theorem dX6_isLoose_22 : decode cX6_isLoose 22 = .ok (.iconst 0, 1) := by decide +kernel
theorem dX6_isLoose_23 : decode cX6_isLoose 23 = .ok (.goto 18, 3) := by decide +kernel
theorem dX6_isLoose_26 : decode cX6_isLoose 26 = .ok (.aload_n 0, 1) := by decide +kernel
theorem dX6_isLoose_27 : decode cX6_isLoose 27 = .ok (.iload_n 1, 1) := by decide +kernel
theorem dX6_isLoose_28 : decode cX6_isLoose 28 = .ok (.iload_n 2, 1) := by decide +kernel
theorem dX6_isLoose_29 : decode cX6_isLoose 29 = .ok (.invokevirtual 99, 3) := by decide +kernel
theorem dX6_isLoose_32 : decode cX6_isLoose 32 = .ok (.iload_n 3, 1) := by decide +kernel
theorem dX6_isLoose_33 : decode cX6_isLoose 33 = .ok (.if_icmp .ge 7, 3) := by decide +kernel
theorem dX6_isLoose_36 : decode cX6_isLoose 36 = .ok (.iconst 1, 1) := by decide +kernel
theorem dX6_isLoose_37 : decode cX6_isLoose 37 = .ok (.goto 4, 3) := by decide +kernel
theorem dX6_isLoose_40 : decode cX6_isLoose 40 = .ok (.iconst 0, 1) := by decide +kernel
theorem dX6_isLoose_41 : decode cX6_isLoose 41 = .ok (.ireturn, 1) := by decide +kernel
theorem dX6_dropLoose_0 : decode cX6_dropLoose 0 = .ok (.aload_n 0, 1) := by decide +kernel
theorem dX6_dropLoose_1 : decode cX6_dropLoose 1 = .ok (.invokevirtual 111, 3) := by decide +kernel
theorem dX6_dropLoose_4 : decode cX6_dropLoose 4 = .ok (.istore_n 1, 1) := by decide +kernel
theorem dX6_dropLoose_5 : decode cX6_dropLoose 5 = .ok (.iload_n 1, 1) := by decide +kernel
theorem dX6_dropLoose_6 : decode cX6_dropLoose 6 = .ok (.ifCond .ge 6, 3) := by decide +kernel
theorem dX6_dropLoose_9 : decode cX6_dropLoose 9 = .ok (.bipush (-4), 2) := by decide +kernel
theorem dX6_dropLoose_11 : decode cX6_dropLoose 11 = .ok (.ireturn, 1) := by decide +kernel
theorem dX6_dropLoose_12 : decode cX6_dropLoose 12 = .ok (.aload_n 0, 1) := by decide +kernel
theorem dX6_dropLoose_13 : decode cX6_dropLoose 13 = .ok (.iload_n 1, 1) := by decide +kernel
theorem dX6_dropLoose_14 : decode cX6_dropLoose 14 = .ok (.invokevirtual 108, 3) := by decide +kernel
theorem dX6_dropLoose_17 : decode cX6_dropLoose 17 = .ok (.aload_n 0, 1) := by decide +kernel
theorem dX6_dropLoose_18 : decode cX6_dropLoose 18 = .ok (.iload_n 1, 1) := by decide +kernel
theorem dX6_dropLoose_19 : decode cX6_dropLoose 19 = .ok (.invokevirtual 102, 3) := by decide +kernel
theorem dX6_dropLoose_22 : decode cX6_dropLoose 22 = .ok (.isub, 1) := by decide +kernel
theorem dX6_dropLoose_23 : decode cX6_dropLoose 23 = .ok (.istore_n 2, 1) := by decide +kernel
theorem dX6_dropLoose_24 : decode cX6_dropLoose 24 = .ok (.iconst 0, 1) := by decide +kernel
theorem dX6_dropLoose_25 : decode cX6_dropLoose 25 = .ok (.istore_n 3, 1) := by decide +kernel
theorem dX6_dropLoose_26 : decode cX6_dropLoose 26 = .ok (.iconst 0, 1) := by decide +kernel
theorem dX6_dropLoose_27 : decode cX6_dropLoose 27 = .ok (.istore 4, 2) := by decide +kernel
theorem dX6_dropLoose_29 : decode cX6_dropLoose 29 = .ok (.iload 4, 2) := by decide +kernel
theorem dX6_dropLoose_31 : decode cX6_dropLoose 31 = .ok (.aload_n 0, 1) := by decide +kernel
theorem dX6_dropLoose_32 : decode cX6_dropLoose 32 = .ok (.getfield 7, 3) := by decide +kernel
theorem dX6_dropLoose_35 : decode cX6_dropLoose 35 = .ok (.iconst 3, 1) := by decide +kernel
theorem dX6_dropLoose_36 : decode cX6_dropLoose 36 = .ok (.iaload, 1) := by decide +kernel
theorem dX6_dropLoose_37 : decode cX6_dropLoose 37 = .ok (.if_icmp .ge 28, 3) := by decide +kernel
theorem dX6_dropLoose_40 : decode cX6_dropLoose 40 = .ok (.iload_n 3, 1) := by decide +kernel
theorem dX6_dropLoose_41 : decode cX6_dropLoose 41 = .ok (.aload_n 0, 1) := by decide +kernel
theorem dX6_dropLoose_42 : decode cX6_dropLoose 42 = .ok (.iload 4, 2) := by decide +kernel
theorem dX6_dropLoose_44 : decode cX6_dropLoose 44 = .ok (.iload_n 1, 1) := by decide +kernel
theorem dX6_dropLoose_45 : decode cX6_dropLoose 45 = .ok (.iload_n 2, 1) := by decide +kernel
theorem dX6_dropLoose_46 : decode cX6_dropLoose 46 = .ok (.invokevirtual 131, 3) := by decide +kernel
theorem dX6_dropLoose_49 : decode cX6_dropLoose 49 = .ok (.ifCond .eq 7, 3) := by decide +kernel
theorem dX6_dropLoose_52 : decode cX6_dropLoose 52 = .ok (.iconst 1, 1) := by decide +kernel
theorem dX6_dropLoose_53 : decode cX6_dropLoose 53 = .ok (.goto 4, 3) := by decide +kernel
theorem dX6_dropLoose_56 : decode cX6_dropLoose 56 = .ok (.iconst 0, 1) := by decide +kernel
theorem dX6_dropLoose_57 : decode cX6_dropLoose 57 = .ok (.iadd, 1) := by decide +kernel
theorem dX6_dropLoose_58 : decode cX6_dropLoose 58 = .ok (.istore_n 3, 1) := by decide +kernel
theorem dX6_dropLoose_59 : decode cX6_dropLoose 59 = .ok (.iinc 4 1, 3) := by decide +kernel
theorem dX6_dropLoose_62 : decode cX6_dropLoose 62 = .ok (.goto (-33), 3) := by decide +kernel
theorem dX6_dropLoose_65 : decode cX6_dropLoose 65 = .ok (.iload_n 3, 1) := by decide +kernel
theorem dX6_dropLoose_66 : decode cX6_dropLoose 66 = .ok (.ifCond .ne 6, 3) := by decide +kernel
theorem dX6_dropLoose_69 : decode cX6_dropLoose 69 = .ok (.bipush (-5), 2) := by decide +kernel
theorem dX6_dropLoose_71 : decode cX6_dropLoose 71 = .ok (.ireturn, 1) := by decide +kernel
theorem dX6_dropLoose_72 : decode cX6_dropLoose 72 = .ok (.aload_n 0, 1) := by decide +kernel
theorem dX6_dropLoose_73 : decode cX6_dropLoose 73 = .ok (.invokevirtual 43, 3) := by decide +kernel
theorem dX6_dropLoose_76 : decode cX6_dropLoose 76 = .ok (.aload_n 0, 1) := by decide +kernel
theorem dX6_dropLoose_77 : decode cX6_dropLoose 77 = .ok (.getfield 7, 3) := by decide +kernel
theorem dX6_dropLoose_80 : decode cX6_dropLoose 80 = .ok (.iconst 3, 1) := by decide +kernel
theorem dX6_dropLoose_81 : decode cX6_dropLoose 81 = .ok (.iaload, 1) := by decide +kernel
theorem dX6_dropLoose_82 : decode cX6_dropLoose 82 = .ok (.iconst 1, 1) := by decide +kernel
theorem dX6_dropLoose_83 : decode cX6_dropLoose 83 = .ok (.isub, 1) := by decide +kernel
theorem dX6_dropLoose_84 : decode cX6_dropLoose 84 = .ok (.istore 4, 2) := by decide +kernel
theorem dX6_dropLoose_86 : decode cX6_dropLoose 86 = .ok (.iload 4, 2) := by decide +kernel
theorem dX6_dropLoose_88 : decode cX6_dropLoose 88 = .ok (.ifCond .lt 26, 3) := by decide +kernel
theorem dX6_dropLoose_91 : decode cX6_dropLoose 91 = .ok (.aload_n 0, 1) := by decide +kernel
theorem dX6_dropLoose_92 : decode cX6_dropLoose 92 = .ok (.iload 4, 2) := by decide +kernel
theorem dX6_dropLoose_94 : decode cX6_dropLoose 94 = .ok (.iload_n 1, 1) := by decide +kernel
theorem dX6_dropLoose_95 : decode cX6_dropLoose 95 = .ok (.iload_n 2, 1) := by decide +kernel
theorem dX6_dropLoose_96 : decode cX6_dropLoose 96 = .ok (.invokevirtual 131, 3) := by decide +kernel
theorem dX6_dropLoose_99 : decode cX6_dropLoose 99 = .ok (.ifCond .eq 9, 3) := by decide +kernel
theorem dX6_dropLoose_102 : decode cX6_dropLoose 102 = .ok (.aload_n 0, 1) := by decide +kernel
theorem dX6_dropLoose_103 : decode cX6_dropLoose 103 = .ok (.iload 4, 2) := by decide +kernel
theorem dX6_dropLoose_105 : decode cX6_dropLoose 105 = .ok (.invokevirtual 127, 3) := by decide +kernel
theorem dX6_dropLoose_108 : decode cX6_dropLoose 108 = .ok (.iinc 4 (-1), 3) := by decide +kernel
theorem dX6_dropLoose_111 : decode cX6_dropLoose 111 = .ok (.goto (-25), 3) := by decide +kernel
theorem dX6_dropLoose_114 : decode cX6_dropLoose 114 = .ok (.iload_n 3, 1) := by decide +kernel
theorem dX6_dropLoose_115 : decode cX6_dropLoose 115 = .ok (.ireturn, 1) := by decide +kernel
theorem dX6_type_0 : decode cX6_type 0 = .ok (.aload_n 0, 1) := by decide +kernel
theorem dX6_type_1 : decode cX6_type 1 = .ok (.getfield 134, 3) := by decide +kernel
theorem dX6_type_4 : decode cX6_type 4 = .ok (.bipush 60, 2) := by decide +kernel
theorem dX6_type_6 : decode cX6_type 6 = .ok (.if_icmp .ne 6, 3) := by decide +kernel
theorem dX6_type_9 : decode cX6_type 9 = .ok (.bipush (-3), 2) := by decide +kernel
theorem dX6_type_11 : decode cX6_type 11 = .ok (.ireturn, 1) := by decide +kernel
theorem dX6_type_12 : decode cX6_type 12 = .ok (.aload_n 0, 1) := by decide +kernel
theorem dX6_type_13 : decode cX6_type 13 = .ok (.getfield 22, 3) := by decide +kernel
theorem dX6_type_16 : decode cX6_type 16 = .ok (.aload_n 0, 1) := by decide +kernel
theorem dX6_type_17 : decode cX6_type 17 = .ok (.getfield 134, 3) := by decide +kernel
theorem dX6_type_20 : decode cX6_type 20 = .ok (.iload_n 1, 1) := by decide +kernel
theorem dX6_type_21 : decode cX6_type 21 = .ok (.castore, 1) := by decide +kernel
theorem dX6_type_22 : decode cX6_type 22 = .ok (.aload_n 0, 1) := by decide +kernel
theorem dX6_type_23 : decode cX6_type 23 = .ok (.dup, 1) := by decide +kernel
theorem dX6_type_24 : decode cX6_type 24 = .ok (.getfield 134, 3) := by decide +kernel
theorem dX6_type_27 : decode cX6_type 27 = .ok (.iconst 1, 1) := by decide +kernel
theorem dX6_type_28 : decode cX6_type 28 = .ok (.iadd, 1) := by decide +kernel
theorem dX6_type_29 : decode cX6_type 29 = .ok (.putfield 134, 3) := by decide +kernel
theorem dX6_type_32 : decode cX6_type 32 = .ok (.aload_n 0, 1) := by decide +kernel
theorem dX6_type_33 : decode cX6_type 33 = .ok (.getfield 134, 3) := by decide +kernel
theorem dX6_type_36 : decode cX6_type 36 = .ok (.ireturn, 1) := by decide +kernel
theorem dX6_clearText_0 : decode cX6_clearText 0 = .ok (.aload_n 0, 1) := by decide +kernel
theorem dX6_clearText_1 : decode cX6_clearText 1 = .ok (.getfield 134, 3) := by decide +kernel
theorem dX6_clearText_4 : decode cX6_clearText 4 = .ok (.istore_n 1, 1) := by decide +kernel
theorem dX6_clearText_5 : decode cX6_clearText 5 = .ok (.aload_n 0, 1) := by decide +kernel
theorem dX6_clearText_6 : decode cX6_clearText 6 = .ok (.iconst 0, 1) := by decide +kernel
theorem dX6_clearText_7 : decode cX6_clearText 7 = .ok (.putfield 134, 3) := by decide +kernel
theorem dX6_clearText_10 : decode cX6_clearText 10 = .ok (.iload_n 1, 1) := by decide +kernel
theorem dX6_clearText_11 : decode cX6_clearText 11 = .ok (.ireturn, 1) := by decide +kernel
theorem dX6_sees_0 : decode cX6_sees 0 = .ok (.aload_n 0, 1) := by decide +kernel
theorem dX6_sees_1 : decode cX6_sees 1 = .ok (.getfield 137, 3) := by decide +kernel
theorem dX6_sees_4 : decode cX6_sees 4 = .ok (.aload_n 0, 1) := by decide +kernel
theorem dX6_sees_5 : decode cX6_sees 5 = .ok (.getfield 134, 3) := by decide +kernel
theorem dX6_sees_8 : decode cX6_sees 8 = .ok (.if_icmp .ge 24, 3) := by decide +kernel
theorem dX6_sees_11 : decode cX6_sees 11 = .ok (.aload_n 0, 1) := by decide +kernel
theorem dX6_sees_12 : decode cX6_sees 12 = .ok (.getfield 22, 3) := by decide +kernel
theorem dX6_sees_15 : decode cX6_sees 15 = .ok (.aload_n 0, 1) := by decide +kernel
theorem dX6_sees_16 : decode cX6_sees 16 = .ok (.getfield 137, 3) := by decide +kernel
theorem dX6_sees_19 : decode cX6_sees 19 = .ok (.caload, 1) := by decide +kernel
theorem dX6_sees_20 : decode cX6_sees 20 = .ok (.iload_n 1, 1) := by decide +kernel
theorem dX6_sees_21 : decode cX6_sees 21 = .ok (.iload_n 2, 1) := by decide +kernel
theorem dX6_sees_22 : decode cX6_sees 22 = .ok (.invokestatic 46, 3) := by decide +kernel
theorem dX6_sees_25 : decode cX6_sees 25 = .ok (.ifCond .eq 7, 3) := by decide +kernel
theorem dX6_sees_28 : decode cX6_sees 28 = .ok (.iconst 1, 1) := by decide +kernel
theorem dX6_sees_29 : decode cX6_sees 29 = .ok (.goto 4, 3) := by decide +kernel
theorem dX6_sees_32 : decode cX6_sees 32 = .ok (.iconst 0, 1) := by decide +kernel
theorem dX6_sees_33 : decode cX6_sees 33 = .ok (.ireturn, 1) := by decide +kernel
theorem dX6_readNumbers_0 : decode cX6_readNumbers 0 = .ok (.aload_n 0, 1) := by decide +kernel
theorem dX6_readNumbers_1 : decode cX6_readNumbers 1 = .ok (.iconst 0, 1) := by decide +kernel
theorem dX6_readNumbers_2 : decode cX6_readNumbers 2 = .ok (.putfield 137, 3) := by decide +kernel
theorem dX6_readNumbers_5 : decode cX6_readNumbers 5 = .ok (.iconst 0, 1) := by decide +kernel
theorem dX6_readNumbers_6 : decode cX6_readNumbers 6 = .ok (.istore_n 1, 1) := by decide +kernel
theorem dX6_readNumbers_7 : decode cX6_readNumbers 7 = .ok (.iload_n 1, 1) := by decide +kernel
theorem dX6_readNumbers_8 : decode cX6_readNumbers 8 = .ok (.aload_n 0, 1) := by decide +kernel
theorem dX6_readNumbers_9 : decode cX6_readNumbers 9 = .ok (.getfield 7, 3) := by decide +kernel
theorem dX6_readNumbers_12 : decode cX6_readNumbers 12 = .ok (.iconst 1, 1) := by decide +kernel
theorem dX6_readNumbers_13 : decode cX6_readNumbers 13 = .ok (.iaload, 1) := by decide +kernel
theorem dX6_readNumbers_14 : decode cX6_readNumbers 14 = .ok (.if_icmp .ge 122, 3) := by decide +kernel
theorem dX6_readNumbers_17 : decode cX6_readNumbers 17 = .ok (.iload_n 1, 1) := by decide +kernel
theorem dX6_readNumbers_18 : decode cX6_readNumbers 18 = .ok (.ifCond .le 26, 3) := by decide +kernel
theorem dX6_readNumbers_21 : decode cX6_readNumbers 21 = .ok (.aload_n 0, 1) := by decide +kernel
theorem dX6_readNumbers_22 : decode cX6_readNumbers 22 = .ok (.bipush 44, 2) := by decide +kernel
theorem dX6_readNumbers_24 : decode cX6_readNumbers 24 = .ok (.bipush 44, 2) := by decide +kernel
theorem dX6_readNumbers_26 : decode cX6_readNumbers 26 = .ok (.invokevirtual 140, 3) := by decide +kernel
theorem dX6_readNumbers_29 : decode cX6_readNumbers 29 = .ok (.ifCond .ne 5, 3) := by decide +kernel
theorem dX6_readNumbers_32 : decode cX6_readNumbers 32 = .ok (.iconst 0, 1) := by decide +kernel
theorem dX6_readNumbers_33 : decode cX6_readNumbers 33 = .ok (.ireturn, 1) := by decide +kernel
theorem dX6_readNumbers_34 : decode cX6_readNumbers 34 = .ok (.aload_n 0, 1) := by decide +kernel
theorem dX6_readNumbers_35 : decode cX6_readNumbers 35 = .ok (.dup, 1) := by decide +kernel
theorem dX6_readNumbers_36 : decode cX6_readNumbers 36 = .ok (.getfield 137, 3) := by decide +kernel
theorem dX6_readNumbers_39 : decode cX6_readNumbers 39 = .ok (.iconst 1, 1) := by decide +kernel
theorem dX6_readNumbers_40 : decode cX6_readNumbers 40 = .ok (.iadd, 1) := by decide +kernel
theorem dX6_readNumbers_41 : decode cX6_readNumbers 41 = .ok (.putfield 137, 3) := by decide +kernel
theorem dX6_readNumbers_44 : decode cX6_readNumbers 44 = .ok (.aload_n 0, 1) := by decide +kernel
theorem dX6_readNumbers_45 : decode cX6_readNumbers 45 = .ok (.bipush 48, 2) := by decide +kernel
theorem dX6_readNumbers_47 : decode cX6_readNumbers 47 = .ok (.bipush 57, 2) := by decide +kernel
theorem dX6_readNumbers_49 : decode cX6_readNumbers 49 = .ok (.invokevirtual 140, 3) := by decide +kernel
theorem dX6_readNumbers_52 : decode cX6_readNumbers 52 = .ok (.ifCond .ne 5, 3) := by decide +kernel
theorem dX6_readNumbers_55 : decode cX6_readNumbers 55 = .ok (.iconst 0, 1) := by decide +kernel
theorem dX6_readNumbers_56 : decode cX6_readNumbers 56 = .ok (.ireturn, 1) := by decide +kernel
theorem dX6_readNumbers_57 : decode cX6_readNumbers 57 = .ok (.aload_n 0, 1) := by decide +kernel
theorem dX6_readNumbers_58 : decode cX6_readNumbers 58 = .ok (.getfield 22, 3) := by decide +kernel
theorem dX6_readNumbers_61 : decode cX6_readNumbers 61 = .ok (.aload_n 0, 1) := by decide +kernel
theorem dX6_readNumbers_62 : decode cX6_readNumbers 62 = .ok (.getfield 137, 3) := by decide +kernel
theorem dX6_readNumbers_65 : decode cX6_readNumbers 65 = .ok (.caload, 1) := by decide +kernel
theorem dX6_readNumbers_66 : decode cX6_readNumbers 66 = .ok (.bipush 48, 2) := by decide +kernel
theorem dX6_readNumbers_68 : decode cX6_readNumbers 68 = .ok (.isub, 1) := by decide +kernel
theorem dX6_readNumbers_69 : decode cX6_readNumbers 69 = .ok (.istore_n 2, 1) := by decide +kernel
theorem dX6_readNumbers_70 : decode cX6_readNumbers 70 = .ok (.aload_n 0, 1) := by decide +kernel
theorem dX6_readNumbers_71 : decode cX6_readNumbers 71 = .ok (.dup, 1) := by decide +kernel
theorem dX6_readNumbers_72 : decode cX6_readNumbers 72 = .ok (.getfield 137, 3) := by decide +kernel
theorem dX6_readNumbers_75 : decode cX6_readNumbers 75 = .ok (.iconst 1, 1) := by decide +kernel
theorem dX6_readNumbers_76 : decode cX6_readNumbers 76 = .ok (.iadd, 1) := by decide +kernel
theorem dX6_readNumbers_77 : decode cX6_readNumbers 77 = .ok (.putfield 137, 3) := by decide +kernel
theorem dX6_readNumbers_80 : decode cX6_readNumbers 80 = .ok (.iload_n 2, 1) := by decide +kernel
theorem dX6_readNumbers_81 : decode cX6_readNumbers 81 = .ok (.ifCond .le 42, 3) := by decide +kernel
theorem dX6_readNumbers_84 : decode cX6_readNumbers 84 = .ok (.aload_n 0, 1) := by decide +kernel
theorem dX6_readNumbers_85 : decode cX6_readNumbers 85 = .ok (.bipush 48, 2) := by decide +kernel
theorem dX6_readNumbers_87 : decode cX6_readNumbers 87 = .ok (.bipush 57, 2) := by decide +kernel
theorem dX6_readNumbers_89 : decode cX6_readNumbers 89 = .ok (.invokevirtual 140, 3) := by decide +kernel
theorem dX6_readNumbers_92 : decode cX6_readNumbers 92 = .ok (.ifCond .eq 31, 3) := by decide +kernel
theorem dX6_readNumbers_95 : decode cX6_readNumbers 95 = .ok (.bipush 10, 2) := by decide +kernel
theorem dX6_readNumbers_97 : decode cX6_readNumbers 97 = .ok (.iload_n 2, 1) := by decide +kernel
theorem dX6_readNumbers_98 : decode cX6_readNumbers 98 = .ok (.imul, 1) := by decide +kernel
theorem dX6_readNumbers_99 : decode cX6_readNumbers 99 = .ok (.aload_n 0, 1) := by decide +kernel
theorem dX6_readNumbers_100 : decode cX6_readNumbers 100 = .ok (.getfield 22, 3) := by decide +kernel
theorem dX6_readNumbers_103 : decode cX6_readNumbers 103 = .ok (.aload_n 0, 1) := by decide +kernel
theorem dX6_readNumbers_104 : decode cX6_readNumbers 104 = .ok (.getfield 137, 3) := by decide +kernel
theorem dX6_readNumbers_107 : decode cX6_readNumbers 107 = .ok (.caload, 1) := by decide +kernel
theorem dX6_readNumbers_108 : decode cX6_readNumbers 108 = .ok (.iadd, 1) := by decide +kernel
theorem dX6_readNumbers_109 : decode cX6_readNumbers 109 = .ok (.bipush 48, 2) := by decide +kernel
theorem dX6_readNumbers_111 : decode cX6_readNumbers 111 = .ok (.isub, 1) := by decide +kernel
theorem dX6_readNumbers_112 : decode cX6_readNumbers 112 = .ok (.istore_n 2, 1) := by decide +kernel
theorem dX6_readNumbers_113 : decode cX6_readNumbers 113 = .ok (.aload_n 0, 1) := by decide +kernel
theorem dX6_readNumbers_114 : decode cX6_readNumbers 114 = .ok (.dup, 1) := by decide +kernel
theorem dX6_readNumbers_115 : decode cX6_readNumbers 115 = .ok (.getfield 137, 3) := by decide +kernel
theorem dX6_readNumbers_118 : decode cX6_readNumbers 118 = .ok (.iconst 1, 1) := by decide +kernel
theorem dX6_readNumbers_119 : decode cX6_readNumbers 119 = .ok (.iadd, 1) := by decide +kernel
theorem dX6_readNumbers_120 : decode cX6_readNumbers 120 = .ok (.putfield 137, 3) := by decide +kernel
theorem dX6_readNumbers_123 : decode cX6_readNumbers 123 = .ok (.aload_n 0, 1) := by decide +kernel
theorem dX6_readNumbers_124 : decode cX6_readNumbers 124 = .ok (.getfield 26, 3) := by decide +kernel
theorem dX6_readNumbers_127 : decode cX6_readNumbers 127 = .ok (.iload_n 1, 1) := by decide +kernel
theorem dX6_readNumbers_128 : decode cX6_readNumbers 128 = .ok (.iload_n 2, 1) := by decide +kernel
theorem dX6_readNumbers_129 : decode cX6_readNumbers 129 = .ok (.iastore, 1) := by decide +kernel
theorem dX6_readNumbers_130 : decode cX6_readNumbers 130 = .ok (.iinc 1 1, 3) := by decide +kernel
theorem dX6_readNumbers_133 : decode cX6_readNumbers 133 = .ok (.goto (-126), 3) := by decide +kernel
theorem dX6_readNumbers_136 : decode cX6_readNumbers 136 = .ok (.aload_n 0, 1) := by decide +kernel
theorem dX6_readNumbers_137 : decode cX6_readNumbers 137 = .ok (.getfield 137, 3) := by decide +kernel
theorem dX6_readNumbers_140 : decode cX6_readNumbers 140 = .ok (.aload_n 0, 1) := by decide +kernel
theorem dX6_readNumbers_141 : decode cX6_readNumbers 141 = .ok (.getfield 134, 3) := by decide +kernel
theorem dX6_readNumbers_144 : decode cX6_readNumbers 144 = .ok (.if_icmp .ne 7, 3) := by decide +kernel
theorem dX6_readNumbers_147 : decode cX6_readNumbers 147 = .ok (.iconst 1, 1) := by decide +kernel
theorem dX6_readNumbers_148 : decode cX6_readNumbers 148 = .ok (.goto 4, 3) := by decide +kernel
theorem dX6_readNumbers_151 : decode cX6_readNumbers 151 = .ok (.iconst 0, 1) := by decide +kernel
theorem dX6_readNumbers_152 : decode cX6_readNumbers 152 = .ok (.ireturn, 1) := by decide +kernel
theorem dX6_readCut_0 : decode cX6_readCut 0 = .ok (.aload_n 0, 1) := by decide +kernel
theorem dX6_readCut_1 : decode cX6_readCut 1 = .ok (.getfield 7, 3) := by decide +kernel
theorem dX6_readCut_4 : decode cX6_readCut 4 = .ok (.iconst 1, 1) := by decide +kernel
theorem dX6_readCut_5 : decode cX6_readCut 5 = .ok (.iaload, 1) := by decide +kernel
theorem dX6_readCut_6 : decode cX6_readCut 6 = .ok (.ifCond .ne 6, 3) := by decide +kernel
theorem dX6_readCut_9 : decode cX6_readCut 9 = .ok (.bipush (-4), 2) := by decide +kernel
theorem dX6_readCut_11 : decode cX6_readCut 11 = .ok (.ireturn, 1) := by decide +kernel
theorem dX6_readCut_12 : decode cX6_readCut 12 = .ok (.aload_n 0, 1) := by decide +kernel
theorem dX6_readCut_13 : decode cX6_readCut 13 = .ok (.invokevirtual 143, 3) := by decide +kernel
theorem dX6_readCut_16 : decode cX6_readCut 16 = .ok (.ifCond .ne 11, 3) := by decide +kernel
theorem dX6_readCut_19 : decode cX6_readCut 19 = .ok (.bipush (-100), 2) := by decide +kernel
theorem dX6_readCut_21 : decode cX6_readCut 21 = .ok (.aload_n 0, 1) := by decide +kernel
theorem dX6_readCut_22 : decode cX6_readCut 22 = .ok (.getfield 137, 3) := by decide +kernel
theorem dX6_readCut_25 : decode cX6_readCut 25 = .ok (.isub, 1) := by decide +kernel
theorem dX6_readCut_26 : decode cX6_readCut 26 = .ok (.ireturn, 1) := by decide +kernel
theorem dX6_readCut_27 : decode cX6_readCut 27 = .ok (.aload_n 0, 1) := by decide +kernel
theorem dX6_readCut_28 : decode cX6_readCut 28 = .ok (.getfield 7, 3) := by decide +kernel
theorem dX6_readCut_31 : decode cX6_readCut 31 = .ok (.iconst 3, 1) := by decide +kernel
theorem dX6_readCut_32 : decode cX6_readCut 32 = .ok (.iaload, 1) := by decide +kernel
theorem dX6_readCut_33 : decode cX6_readCut 33 = .ok (.istore_n 1, 1) := by decide +kernel
theorem dX6_readCut_34 : decode cX6_readCut 34 = .ok (.iload_n 1, 1) := by decide +kernel
theorem dX6_readCut_35 : decode cX6_readCut 35 = .ok (.bipush 40, 2) := by decide +kernel
theorem dX6_readCut_37 : decode cX6_readCut 37 = .ok (.if_icmp .ne 6, 3) := by decide +kernel
theorem dX6_readCut_40 : decode cX6_readCut 40 = .ok (.bipush (-3), 2) := by decide +kernel
theorem dX6_readCut_42 : decode cX6_readCut 42 = .ok (.ireturn, 1) := by decide +kernel
theorem dX6_readCut_43 : decode cX6_readCut 43 = .ok (.aload_n 0, 1) := by decide +kernel
theorem dX6_readCut_44 : decode cX6_readCut 44 = .ok (.invokevirtual 43, 3) := by decide +kernel
theorem dX6_readCut_47 : decode cX6_readCut 47 = .ok (.aload_n 0, 1) := by decide +kernel
theorem dX6_readCut_48 : decode cX6_readCut 48 = .ok (.getfield 7, 3) := by decide +kernel
theorem dX6_readCut_51 : decode cX6_readCut 51 = .ok (.bipush 84, 2) := by decide +kernel
theorem dX6_readCut_53 : decode cX6_readCut 53 = .ok (.bipush 9, 2) := by decide +kernel
theorem dX6_readCut_55 : decode cX6_readCut 55 = .ok (.iload_n 1, 1) := by decide +kernel
theorem dX6_readCut_56 : decode cX6_readCut 56 = .ok (.imul, 1) := by decide +kernel
theorem dX6_readCut_57 : decode cX6_readCut 57 = .ok (.iadd, 1) := by decide +kernel
theorem dX6_readCut_58 : decode cX6_readCut 58 = .ok (.bipush (-5), 2) := by decide +kernel
theorem dX6_readCut_60 : decode cX6_readCut 60 = .ok (.iastore, 1) := by decide +kernel
theorem dX6_readCut_61 : decode cX6_readCut 61 = .ok (.iconst 0, 1) := by decide +kernel
theorem dX6_readCut_62 : decode cX6_readCut 62 = .ok (.istore_n 2, 1) := by decide +kernel
theorem dX6_readCut_63 : decode cX6_readCut 63 = .ok (.iload_n 2, 1) := by decide +kernel
theorem dX6_readCut_64 : decode cX6_readCut 64 = .ok (.aload_n 0, 1) := by decide +kernel
theorem dX6_readCut_65 : decode cX6_readCut 65 = .ok (.getfield 7, 3) := by decide +kernel
theorem dX6_readCut_68 : decode cX6_readCut 68 = .ok (.iconst 1, 1) := by decide +kernel
theorem dX6_readCut_69 : decode cX6_readCut 69 = .ok (.iaload, 1) := by decide +kernel
theorem dX6_readCut_70 : decode cX6_readCut 70 = .ok (.if_icmp .ge 31, 3) := by decide +kernel
theorem dX6_readCut_73 : decode cX6_readCut 73 = .ok (.aload_n 0, 1) := by decide +kernel
theorem dX6_readCut_74 : decode cX6_readCut 74 = .ok (.getfield 7, 3) := by decide +kernel
theorem dX6_readCut_77 : decode cX6_readCut 77 = .ok (.bipush 84, 2) := by decide +kernel
theorem dX6_readCut_79 : decode cX6_readCut 79 = .ok (.bipush 9, 2) := by decide +kernel
theorem dX6_readCut_81 : decode cX6_readCut 81 = .ok (.iload_n 1, 1) := by decide +kernel
theorem dX6_readCut_82 : decode cX6_readCut 82 = .ok (.imul, 1) := by decide +kernel
theorem dX6_readCut_83 : decode cX6_readCut 83 = .ok (.iadd, 1) := by decide +kernel
theorem dX6_readCut_84 : decode cX6_readCut 84 = .ok (.iconst 1, 1) := by decide +kernel
theorem dX6_readCut_85 : decode cX6_readCut 85 = .ok (.iadd, 1) := by decide +kernel
theorem dX6_readCut_86 : decode cX6_readCut 86 = .ok (.iload_n 2, 1) := by decide +kernel
theorem dX6_readCut_87 : decode cX6_readCut 87 = .ok (.iadd, 1) := by decide +kernel
theorem dX6_readCut_88 : decode cX6_readCut 88 = .ok (.aload_n 0, 1) := by decide +kernel
theorem dX6_readCut_89 : decode cX6_readCut 89 = .ok (.getfield 26, 3) := by decide +kernel
theorem dX6_readCut_92 : decode cX6_readCut 92 = .ok (.iload_n 2, 1) := by decide +kernel
theorem dX6_readCut_93 : decode cX6_readCut 93 = .ok (.iaload, 1) := by decide +kernel
theorem dX6_readCut_94 : decode cX6_readCut 94 = .ok (.iastore, 1) := by decide +kernel
theorem dX6_readCut_95 : decode cX6_readCut 95 = .ok (.iinc 2 1, 3) := by decide +kernel
theorem dX6_readCut_98 : decode cX6_readCut 98 = .ok (.goto (-35), 3) := by decide +kernel
theorem dX6_readCut_101 : decode cX6_readCut 101 = .ok (.aload_n 0, 1) := by decide +kernel
theorem dX6_readCut_102 : decode cX6_readCut 102 = .ok (.getfield 7, 3) := by decide +kernel
theorem dX6_readCut_105 : decode cX6_readCut 105 = .ok (.iconst 3, 1) := by decide +kernel
theorem dX6_readCut_106 : decode cX6_readCut 106 = .ok (.dup2, 1) := by decide +kernel
theorem dX6_readCut_107 : decode cX6_readCut 107 = .ok (.iaload, 1) := by decide +kernel
theorem dX6_readCut_108 : decode cX6_readCut 108 = .ok (.iconst 1, 1) := by decide +kernel
theorem dX6_readCut_109 : decode cX6_readCut 109 = .ok (.iadd, 1) := by decide +kernel
theorem dX6_readCut_110 : decode cX6_readCut 110 = .ok (.iastore, 1) := by decide +kernel
theorem dX6_readCut_111 : decode cX6_readCut 111 = .ok (.iload_n 1, 1) := by decide +kernel
theorem dX6_readCut_112 : decode cX6_readCut 112 = .ok (.ireturn, 1) := by decide +kernel
theorem dX6_judge_0 : decode cX6_judge 0 = .ok (.aload_n 0, 1) := by decide +kernel
theorem dX6_judge_1 : decode cX6_judge 1 = .ok (.iload_n 1, 1) := by decide +kernel
theorem dX6_judge_2 : decode cX6_judge 2 = .ok (.invokevirtual 147, 3) := by decide +kernel
theorem dX6_judge_5 : decode cX6_judge 5 = .ok (.ifCond .eq 6, 3) := by decide +kernel
theorem dX6_judge_8 : decode cX6_judge 8 = .ok (.bipush (-2), 2) := by decide +kernel
theorem dX6_judge_10 : decode cX6_judge 10 = .ok (.ireturn, 1) := by decide +kernel
theorem dX6_judge_11 : decode cX6_judge 11 = .ok (.iload_n 1, 1) := by decide +kernel
theorem dX6_judge_12 : decode cX6_judge 12 = .ok (.invokestatic 71, 3) := by decide +kernel
theorem dX6_judge_15 : decode cX6_judge 15 = .ok (.aload_n 0, 1) := by decide +kernel
theorem dX6_judge_16 : decode cX6_judge 16 = .ok (.getfield 7, 3) := by decide +kernel
theorem dX6_judge_19 : decode cX6_judge 19 = .ok (.iconst 2, 1) := by decide +kernel
theorem dX6_judge_20 : decode cX6_judge 20 = .ok (.iaload, 1) := by decide +kernel
theorem dX6_judge_21 : decode cX6_judge 21 = .ok (.if_icmp .le 7, 3) := by decide +kernel
theorem dX6_judge_24 : decode cX6_judge 24 = .ok (.iconst 1, 1) := by decide +kernel
theorem dX6_judge_25 : decode cX6_judge 25 = .ok (.goto 28, 3) := by decide +kernel
theorem dX6_judge_28 : decode cX6_judge 28 = .ok (.aload_n 0, 1) := by decide +kernel
theorem dX6_judge_29 : decode cX6_judge 29 = .ok (.iload_n 1, 1) := by decide +kernel
theorem dX6_judge_30 : decode cX6_judge 30 = .ok (.invokevirtual 75, 3) := by decide +kernel
theorem dX6_judge_33 : decode cX6_judge 33 = .ok (.ifCond .eq 7, 3) := by decide +kernel
theorem dX6_judge_36 : decode cX6_judge 36 = .ok (.iconst 2, 1) := by decide +kernel
theorem dX6_judge_37 : decode cX6_judge 37 = .ok (.goto 16, 3) := by decide +kernel
theorem dX6_judge_40 : decode cX6_judge 40 = .ok (.aload_n 0, 1) := by decide +kernel
theorem dX6_judge_41 : decode cX6_judge 41 = .ok (.iload_n 1, 1) := by decide +kernel
theorem dX6_judge_42 : decode cX6_judge 42 = .ok (.invokevirtual 87, 3) := by decide +kernel
theorem dX6_judge_45 : decode cX6_judge 45 = .ok (.ifCond .lt 7, 3) := by decide +kernel
theorem dX6_judge_48 : decode cX6_judge 48 = .ok (.iconst 3, 1) := by decide +kernel
theorem dX6_judge_49 : decode cX6_judge 49 = .ok (.goto 4, 3) := by decide +kernel
theorem dX6_judge_52 : decode cX6_judge 52 = .ok (.iconst 0, 1) := by decide +kernel
theorem dX6_judge_53 : decode cX6_judge 53 = .ok (.ireturn, 1) := by decide +kernel
theorem dX6_plan_0 : decode cX6_plan 0 = .ok (.aload_n 0, 1) := by decide +kernel
theorem dX6_plan_1 : decode cX6_plan 1 = .ok (.iload_n 1, 1) := by decide +kernel
theorem dX6_plan_2 : decode cX6_plan 2 = .ok (.invokevirtual 147, 3) := by decide +kernel
theorem dX6_plan_5 : decode cX6_plan 5 = .ok (.ifCond .ne 12, 3) := by decide +kernel
theorem dX6_plan_8 : decode cX6_plan 8 = .ok (.iload_n 2, 1) := by decide +kernel
theorem dX6_plan_9 : decode cX6_plan 9 = .ok (.iconst 0, 1) := by decide +kernel
theorem dX6_plan_10 : decode cX6_plan 10 = .ok (.iconst 4, 1) := by decide +kernel
theorem dX6_plan_11 : decode cX6_plan 11 = .ok (.invokestatic 46, 3) := by decide +kernel
theorem dX6_plan_14 : decode cX6_plan 14 = .ok (.ifCond .ne 6, 3) := by decide +kernel
theorem dX6_plan_17 : decode cX6_plan 17 = .ok (.bipush (-2), 2) := by decide +kernel
theorem dX6_plan_19 : decode cX6_plan 19 = .ok (.ireturn, 1) := by decide +kernel
theorem dX6_plan_20 : decode cX6_plan 20 = .ok (.iload_n 2, 1) := by decide +kernel
theorem dX6_plan_21 : decode cX6_plan 21 = .ok (.ifCond .eq 8, 3) := by decide +kernel
theorem dX6_plan_24 : decode cX6_plan 24 = .ok (.iload_n 2, 1) := by decide +kernel
theorem dX6_plan_25 : decode cX6_plan 25 = .ok (.iconst 2, 1) := by decide +kernel
theorem dX6_plan_26 : decode cX6_plan 26 = .ok (.if_icmp .ne 14, 3) := by decide +kernel
theorem dX6_plan_29 : decode cX6_plan 29 = .ok (.aload_n 0, 1) := by decide +kernel
theorem dX6_plan_30 : decode cX6_plan 30 = .ok (.iload_n 1, 1) := by decide +kernel
theorem dX6_plan_31 : decode cX6_plan 31 = .ok (.invokevirtual 87, 3) := by decide +kernel
theorem dX6_plan_34 : decode cX6_plan 34 = .ok (.ifCond .lt 6, 3) := by decide +kernel
theorem dX6_plan_37 : decode cX6_plan 37 = .ok (.bipush (-4), 2) := by decide +kernel
theorem dX6_plan_39 : decode cX6_plan 39 = .ok (.ireturn, 1) := by decide +kernel
theorem dX6_plan_40 : decode cX6_plan 40 = .ok (.iload_n 2, 1) := by decide +kernel
theorem dX6_plan_41 : decode cX6_plan 41 = .ok (.tableswitch 61 0 3 #[31, 43, 49, 55], 31) := by decide +kernel
theorem dX6_plan_72 : decode cX6_plan 72 = .ok (.aload_n 0, 1) := by decide +kernel
theorem dX6_plan_73 : decode cX6_plan 73 = .ok (.iload_n 1, 1) := by decide +kernel
theorem dX6_plan_74 : decode cX6_plan 74 = .ok (.invokevirtual 102, 3) := by decide +kernel
theorem dX6_plan_77 : decode cX6_plan 77 = .ok (.aload_n 0, 1) := by decide +kernel
theorem dX6_plan_78 : decode cX6_plan 78 = .ok (.iload_n 1, 1) := by decide +kernel
theorem dX6_plan_79 : decode cX6_plan 79 = .ok (.invokevirtual 115, 3) := by decide +kernel
theorem dX6_plan_82 : decode cX6_plan 82 = .ok (.iadd, 1) := by decide +kernel
theorem dX6_plan_83 : decode cX6_plan 83 = .ok (.ireturn, 1) := by decide +kernel
theorem dX6_plan_84 : decode cX6_plan 84 = .ok (.aload_n 0, 1) := by decide +kernel
theorem dX6_plan_85 : decode cX6_plan 85 = .ok (.iload_n 1, 1) := by decide +kernel
theorem dX6_plan_86 : decode cX6_plan 86 = .ok (.invokevirtual 102, 3) := by decide +kernel
theorem dX6_plan_89 : decode cX6_plan 89 = .ok (.ireturn, 1) := by decide +kernel
theorem dX6_plan_90 : decode cX6_plan 90 = .ok (.aload_n 0, 1) := by decide +kernel
theorem dX6_plan_91 : decode cX6_plan 91 = .ok (.iload_n 1, 1) := by decide +kernel
theorem dX6_plan_92 : decode cX6_plan 92 = .ok (.invokevirtual 115, 3) := by decide +kernel
theorem dX6_plan_95 : decode cX6_plan 95 = .ok (.ireturn, 1) := by decide +kernel
theorem dX6_plan_96 : decode cX6_plan 96 = .ok (.aload_n 0, 1) := by decide +kernel
theorem dX6_plan_97 : decode cX6_plan 97 = .ok (.iload_n 1, 1) := by decide +kernel
theorem dX6_plan_98 : decode cX6_plan 98 = .ok (.invokevirtual 108, 3) := by decide +kernel
theorem dX6_plan_101 : decode cX6_plan 101 = .ok (.ireturn, 1) := by decide +kernel
theorem dX6_plan_102 : decode cX6_plan 102 = .ok (.aload_n 0, 1) := by decide +kernel
theorem dX6_plan_103 : decode cX6_plan 103 = .ok (.iload_n 1, 1) := by decide +kernel
theorem dX6_plan_104 : decode cX6_plan 104 = .ok (.invokevirtual 105, 3) := by decide +kernel
theorem dX6_plan_107 : decode cX6_plan 107 = .ok (.ireturn, 1) := by decide +kernel
theorem dX6_serves_0 : decode cX6_serves 0 = .ok (.aload_n 0, 1) := by decide +kernel
theorem dX6_serves_1 : decode cX6_serves 1 = .ok (.iload_n 1, 1) := by decide +kernel
theorem dX6_serves_2 : decode cX6_serves 2 = .ok (.invokevirtual 147, 3) := by decide +kernel
theorem dX6_serves_5 : decode cX6_serves 5 = .ok (.ifCond .eq 6, 3) := by decide +kernel
theorem dX6_serves_8 : decode cX6_serves 8 = .ok (.bipush (-2), 2) := by decide +kernel
theorem dX6_serves_10 : decode cX6_serves 10 = .ok (.ireturn, 1) := by decide +kernel
theorem dX6_serves_11 : decode cX6_serves 11 = .ok (.aload_n 0, 1) := by decide +kernel
theorem dX6_serves_12 : decode cX6_serves 12 = .ok (.iload_n 2, 1) := by decide +kernel
theorem dX6_serves_13 : decode cX6_serves 13 = .ok (.invokevirtual 61, 3) := by decide +kernel
theorem dX6_serves_16 : decode cX6_serves 16 = .ok (.ifCond .eq 7, 3) := by decide +kernel
theorem dX6_serves_19 : decode cX6_serves 19 = .ok (.iconst (-1), 1) := by decide +kernel
theorem dX6_serves_20 : decode cX6_serves 20 = .ok (.goto 9, 3) := by decide +kernel
theorem dX6_serves_23 : decode cX6_serves 23 = .ok (.aload_n 0, 1) := by decide +kernel
theorem dX6_serves_24 : decode cX6_serves 24 = .ok (.iload_n 1, 1) := by decide +kernel
theorem dX6_serves_25 : decode cX6_serves 25 = .ok (.iload_n 2, 1) := by decide +kernel
theorem dX6_serves_26 : decode cX6_serves 26 = .ok (.invokevirtual 81, 3) := by decide +kernel
theorem dX6_serves_29 : decode cX6_serves 29 = .ok (.ireturn, 1) := by decide +kernel
theorem dX6_plansBy_0 : decode cX6_plansBy 0 = .ok (.iconst 0, 1) := by decide +kernel
theorem dX6_plansBy_1 : decode cX6_plansBy 1 = .ok (.istore_n 3, 1) := by decide +kernel
theorem dX6_plansBy_2 : decode cX6_plansBy 2 = .ok (.iconst 0, 1) := by decide +kernel
theorem dX6_plansBy_3 : decode cX6_plansBy 3 = .ok (.istore 4, 2) := by decide +kernel
theorem dX6_plansBy_5 : decode cX6_plansBy 5 = .ok (.iload 4, 2) := by decide +kernel
theorem dX6_plansBy_7 : decode cX6_plansBy 7 = .ok (.iconst 1, 1) := by decide +kernel
theorem dX6_plansBy_8 : decode cX6_plansBy 8 = .ok (.aload_n 0, 1) := by decide +kernel
theorem dX6_plansBy_9 : decode cX6_plansBy 9 = .ok (.getfield 7, 3) := by decide +kernel
theorem dX6_plansBy_12 : decode cX6_plansBy 12 = .ok (.iconst 0, 1) := by decide +kernel
theorem dX6_plansBy_13 : decode cX6_plansBy 13 = .ok (.iaload, 1) := by decide +kernel
theorem dX6_plansBy_14 : decode cX6_plansBy 14 = .ok (.ishl, 1) := by decide +kernel
theorem dX6_plansBy_15 : decode cX6_plansBy 15 = .ok (.if_icmp .ge 124, 3) := by decide +kernel
theorem dX6_plansBy_18 : decode cX6_plansBy 18 = .ok (.aload_n 0, 1) := by decide +kernel
theorem dX6_plansBy_19 : decode cX6_plansBy 19 = .ok (.iload 4, 2) := by decide +kernel
theorem dX6_plansBy_21 : decode cX6_plansBy 21 = .ok (.invokevirtual 150, 3) := by decide +kernel
theorem dX6_plansBy_24 : decode cX6_plansBy 24 = .ok (.ifCond .eq 109, 3) := by decide +kernel
theorem dX6_plansBy_27 : decode cX6_plansBy 27 = .ok (.aload_n 0, 1) := by decide +kernel
theorem dX6_plansBy_28 : decode cX6_plansBy 28 = .ok (.iload_n 1, 1) := by decide +kernel
theorem dX6_plansBy_29 : decode cX6_plansBy 29 = .ok (.invokevirtual 93, 3) := by decide +kernel
theorem dX6_plansBy_32 : decode cX6_plansBy 32 = .ok (.ifCond .eq 13, 3) := by decide +kernel
theorem dX6_plansBy_35 : decode cX6_plansBy 35 = .ok (.aload_n 0, 1) := by decide +kernel
theorem dX6_plansBy_36 : decode cX6_plansBy 36 = .ok (.iload_n 1, 1) := by decide +kernel
theorem dX6_plansBy_37 : decode cX6_plansBy 37 = .ok (.iload 4, 2) := by decide +kernel
theorem dX6_plansBy_39 : decode cX6_plansBy 39 = .ok (.invokevirtual 96, 3) := by decide +kernel
theorem dX6_plansBy_42 : decode cX6_plansBy 42 = .ok (.goto 17, 3) := by decide +kernel
theorem dX6_plansBy_45 : decode cX6_plansBy 45 = .ok (.aload_n 0, 1) := by decide +kernel
theorem dX6_plansBy_46 : decode cX6_plansBy 46 = .ok (.iload_n 1, 1) := by decide +kernel
theorem dX6_plansBy_47 : decode cX6_plansBy 47 = .ok (.iload 4, 2) := by decide +kernel
theorem dX6_plansBy_49 : decode cX6_plansBy 49 = .ok (.invokevirtual 99, 3) := by decide +kernel
theorem dX6_plansBy_52 : decode cX6_plansBy 52 = .ok (.aload_n 0, 1) := by decide +kernel
theorem dX6_plansBy_53 : decode cX6_plansBy 53 = .ok (.iload 4, 2) := by decide +kernel
theorem dX6_plansBy_55 : decode cX6_plansBy 55 = .ok (.invokevirtual 115, 3) := by decide +kernel
theorem dX6_plansBy_58 : decode cX6_plansBy 58 = .ok (.isub, 1) := by decide +kernel
theorem dX6_plansBy_59 : decode cX6_plansBy 59 = .ok (.istore 5, 2) := by decide +kernel
theorem dX6_plansBy_61 : decode cX6_plansBy 61 = .ok (.aload_n 0, 1) := by decide +kernel
theorem dX6_plansBy_62 : decode cX6_plansBy 62 = .ok (.iload_n 1, 1) := by decide +kernel
theorem dX6_plansBy_63 : decode cX6_plansBy 63 = .ok (.invokevirtual 93, 3) := by decide +kernel
theorem dX6_plansBy_66 : decode cX6_plansBy 66 = .ok (.ifCond .eq 25, 3) := by decide +kernel
theorem dX6_plansBy_69 : decode cX6_plansBy 69 = .ok (.iload 5, 2) := by decide +kernel
theorem dX6_plansBy_71 : decode cX6_plansBy 71 = .ok (.iload_n 2, 1) := by decide +kernel
theorem dX6_plansBy_72 : decode cX6_plansBy 72 = .ok (.ifCond .eq 7, 3) := by decide +kernel
theorem dX6_plansBy_75 : decode cX6_plansBy 75 = .ok (.iconst 1, 1) := by decide +kernel
theorem dX6_plansBy_76 : decode cX6_plansBy 76 = .ok (.goto 4, 3) := by decide +kernel
theorem dX6_plansBy_79 : decode cX6_plansBy 79 = .ok (.iconst 0, 1) := by decide +kernel
theorem dX6_plansBy_80 : decode cX6_plansBy 80 = .ok (.if_icmp .ne 7, 3) := by decide +kernel
theorem dX6_plansBy_83 : decode cX6_plansBy 83 = .ok (.iconst 1, 1) := by decide +kernel
theorem dX6_plansBy_84 : decode cX6_plansBy 84 = .ok (.goto 34, 3) := by decide +kernel
theorem dX6_plansBy_87 : decode cX6_plansBy 87 = .ok (.iconst 0, 1) := by decide +kernel
theorem dX6_plansBy_88 : decode cX6_plansBy 88 = .ok (.goto 30, 3) := by decide +kernel
theorem dX6_plansBy_91 : decode cX6_plansBy 91 = .ok (.iload_n 2, 1) := by decide +kernel
theorem dX6_plansBy_92 : decode cX6_plansBy 92 = .ok (.ifCond .eq 16, 3) := by decide +kernel
theorem dX6_plansBy_95 : decode cX6_plansBy 95 = .ok (.iload 5, 2) := by decide +kernel
theorem dX6_plansBy_97 : decode cX6_plansBy 97 = .ok (.ifCond .ne 7, 3) := by decide +kernel
theorem dX6_plansBy_100 : decode cX6_plansBy 100 = .ok (.iconst 1, 1) := by decide +kernel
theorem dX6_plansBy_101 : decode cX6_plansBy 101 = .ok (.goto 17, 3) := by decide +kernel
theorem dX6_plansBy_104 : decode cX6_plansBy 104 = .ok (.iconst 0, 1) := by decide +kernel
theorem dX6_plansBy_105 : decode cX6_plansBy 105 = .ok (.goto 13, 3) := by decide +kernel
theorem dX6_plansBy_108 : decode cX6_plansBy 108 = .ok (.iload 5, 2) := by decide +kernel
theorem dX6_plansBy_110 : decode cX6_plansBy 110 = .ok (.ifCond .le 7, 3) := by decide +kernel
theorem dX6_plansBy_113 : decode cX6_plansBy 113 = .ok (.iconst 1, 1) := by decide +kernel
theorem dX6_plansBy_114 : decode cX6_plansBy 114 = .ok (.goto 4, 3) := by decide +kernel
theorem dX6_plansBy_117 : decode cX6_plansBy 117 = .ok (.iconst 0, 1) := by decide +kernel
theorem dX6_plansBy_118 : decode cX6_plansBy 118 = .ok (.istore 6, 2) := by decide +kernel
theorem dX6_plansBy_120 : decode cX6_plansBy 120 = .ok (.iload_n 3, 1) := by decide +kernel
theorem dX6_plansBy_121 : decode cX6_plansBy 121 = .ok (.iload 6, 2) := by decide +kernel
theorem dX6_plansBy_123 : decode cX6_plansBy 123 = .ok (.ifCond .eq 7, 3) := by decide +kernel
theorem dX6_plansBy_126 : decode cX6_plansBy 126 = .ok (.iconst 1, 1) := by decide +kernel
theorem dX6_plansBy_127 : decode cX6_plansBy 127 = .ok (.goto 4, 3) := by decide +kernel
theorem dX6_plansBy_130 : decode cX6_plansBy 130 = .ok (.iconst 0, 1) := by decide +kernel
theorem dX6_plansBy_131 : decode cX6_plansBy 131 = .ok (.iadd, 1) := by decide +kernel
theorem dX6_plansBy_132 : decode cX6_plansBy 132 = .ok (.istore_n 3, 1) := by decide +kernel
theorem dX6_plansBy_133 : decode cX6_plansBy 133 = .ok (.iinc 4 1, 3) := by decide +kernel
theorem dX6_plansBy_136 : decode cX6_plansBy 136 = .ok (.goto (-131), 3) := by decide +kernel
theorem dX6_plansBy_139 : decode cX6_plansBy 139 = .ok (.iload_n 3, 1) := by decide +kernel
theorem dX6_plansBy_140 : decode cX6_plansBy 140 = .ok (.ireturn, 1) := by decide +kernel
theorem dX6_cut_0 : decode cX6_cut 0 = .ok (.aload_n 0, 1) := by decide +kernel
theorem dX6_cut_1 : decode cX6_cut 1 = .ok (.iload_n 1, 1) := by decide +kernel
theorem dX6_cut_2 : decode cX6_cut 2 = .ok (.invokevirtual 124, 3) := by decide +kernel
theorem dX6_cut_5 : decode cX6_cut 5 = .ok (.ifCond .eq 5, 3) := by decide +kernel
theorem dX6_cut_8 : decode cX6_cut 8 = .ok (.iconst (-1), 1) := by decide +kernel
theorem dX6_cut_9 : decode cX6_cut 9 = .ok (.ireturn, 1) := by decide +kernel
theorem dX6_cut_10 : decode cX6_cut 10 = .ok (.iload_n 2, 1) := by decide +kernel
theorem dX6_cut_11 : decode cX6_cut 11 = .ok (.tableswitch 106 0 4 #[33, 47, 73, 92, 99], 33) := by decide +kernel
theorem dX6_cut_44 : decode cX6_cut 44 = .ok (.aload_n 0, 1) := by decide +kernel
theorem dX6_cut_45 : decode cX6_cut 45 = .ok (.iload_n 1, 1) := by decide +kernel
theorem dX6_cut_46 : decode cX6_cut 46 = .ok (.invokevirtual 93, 3) := by decide +kernel
theorem dX6_cut_49 : decode cX6_cut 49 = .ok (.ifCond .eq 7, 3) := by decide +kernel
theorem dX6_cut_52 : decode cX6_cut 52 = .ok (.iconst 0, 1) := by decide +kernel
theorem dX6_cut_53 : decode cX6_cut 53 = .ok (.goto 4, 3) := by decide +kernel
theorem dX6_cut_56 : decode cX6_cut 56 = .ok (.iconst 1, 1) := by decide +kernel
theorem dX6_cut_57 : decode cX6_cut 57 = .ok (.ireturn, 1) := by decide +kernel
theorem dX6_cut_58 : decode cX6_cut 58 = .ok (.aload_n 0, 1) := by decide +kernel
theorem dX6_cut_59 : decode cX6_cut 59 = .ok (.iload_n 1, 1) := by decide +kernel
theorem dX6_cut_60 : decode cX6_cut 60 = .ok (.invokevirtual 93, 3) := by decide +kernel
theorem dX6_cut_63 : decode cX6_cut 63 = .ok (.ifCond .eq 18, 3) := by decide +kernel
theorem dX6_cut_66 : decode cX6_cut 66 = .ok (.aload_n 0, 1) := by decide +kernel
theorem dX6_cut_67 : decode cX6_cut 67 = .ok (.getfield 7, 3) := by decide +kernel
theorem dX6_cut_70 : decode cX6_cut 70 = .ok (.bipush 84, 2) := by decide +kernel
theorem dX6_cut_72 : decode cX6_cut 72 = .ok (.bipush 9, 2) := by decide +kernel
theorem dX6_cut_74 : decode cX6_cut 74 = .ok (.iload_n 1, 1) := by decide +kernel
theorem dX6_cut_75 : decode cX6_cut 75 = .ok (.imul, 1) := by decide +kernel
theorem dX6_cut_76 : decode cX6_cut 76 = .ok (.iadd, 1) := by decide +kernel
theorem dX6_cut_77 : decode cX6_cut 77 = .ok (.iaload, 1) := by decide +kernel
theorem dX6_cut_78 : decode cX6_cut 78 = .ok (.goto 5, 3) := by decide +kernel
theorem dX6_cut_81 : decode cX6_cut 81 = .ok (.bipush (-5), 2) := by decide +kernel
theorem dX6_cut_83 : decode cX6_cut 83 = .ok (.ireturn, 1) := by decide +kernel
theorem dX6_cut_84 : decode cX6_cut 84 = .ok (.aload_n 0, 1) := by decide +kernel
theorem dX6_cut_85 : decode cX6_cut 85 = .ok (.iload_n 1, 1) := by decide +kernel
theorem dX6_cut_86 : decode cX6_cut 86 = .ok (.invokevirtual 93, 3) := by decide +kernel
theorem dX6_cut_89 : decode cX6_cut 89 = .ok (.ifCond .eq 7, 3) := by decide +kernel
theorem dX6_cut_92 : decode cX6_cut 92 = .ok (.iconst 1, 1) := by decide +kernel
theorem dX6_cut_93 : decode cX6_cut 93 = .ok (.goto 9, 3) := by decide +kernel
theorem dX6_cut_96 : decode cX6_cut 96 = .ok (.aload_n 0, 1) := by decide +kernel
theorem dX6_cut_97 : decode cX6_cut 97 = .ok (.iload_n 1, 1) := by decide +kernel
theorem dX6_cut_98 : decode cX6_cut 98 = .ok (.iconst 0, 1) := by decide +kernel
theorem dX6_cut_99 : decode cX6_cut 99 = .ok (.invokevirtual 99, 3) := by decide +kernel
theorem dX6_cut_102 : decode cX6_cut 102 = .ok (.ireturn, 1) := by decide +kernel
theorem dX6_cut_103 : decode cX6_cut 103 = .ok (.aload_n 0, 1) := by decide +kernel
theorem dX6_cut_104 : decode cX6_cut 104 = .ok (.iload_n 1, 1) := by decide +kernel
theorem dX6_cut_105 : decode cX6_cut 105 = .ok (.iconst 0, 1) := by decide +kernel
theorem dX6_cut_106 : decode cX6_cut 106 = .ok (.invokevirtual 153, 3) := by decide +kernel
theorem dX6_cut_109 : decode cX6_cut 109 = .ok (.ireturn, 1) := by decide +kernel
theorem dX6_cut_110 : decode cX6_cut 110 = .ok (.aload_n 0, 1) := by decide +kernel
theorem dX6_cut_111 : decode cX6_cut 111 = .ok (.iload_n 1, 1) := by decide +kernel
theorem dX6_cut_112 : decode cX6_cut 112 = .ok (.iconst 1, 1) := by decide +kernel
theorem dX6_cut_113 : decode cX6_cut 113 = .ok (.invokevirtual 153, 3) := by decide +kernel
theorem dX6_cut_116 : decode cX6_cut 116 = .ok (.ireturn, 1) := by decide +kernel
theorem dX6_cut_117 : decode cX6_cut 117 = .ok (.bipush (-2), 2) := by decide +kernel
theorem dX6_cut_119 : decode cX6_cut 119 = .ok (.ireturn, 1) := by decide +kernel
theorem dX6_weight_0 : decode cX6_weight 0 = .ok (.aload_n 0, 1) := by decide +kernel
theorem dX6_weight_1 : decode cX6_weight 1 = .ok (.iload_n 1, 1) := by decide +kernel
theorem dX6_weight_2 : decode cX6_weight 2 = .ok (.invokevirtual 124, 3) := by decide +kernel
theorem dX6_weight_5 : decode cX6_weight 5 = .ok (.ifCond .ne 11, 3) := by decide +kernel
theorem dX6_weight_8 : decode cX6_weight 8 = .ok (.aload_n 0, 1) := by decide +kernel
theorem dX6_weight_9 : decode cX6_weight 9 = .ok (.iload_n 2, 1) := by decide +kernel
theorem dX6_weight_10 : decode cX6_weight 10 = .ok (.invokevirtual 53, 3) := by decide +kernel
theorem dX6_weight_13 : decode cX6_weight 13 = .ok (.ifCond .eq 5, 3) := by decide +kernel
theorem dX6_weight_16 : decode cX6_weight 16 = .ok (.iconst (-1), 1) := by decide +kernel
theorem dX6_weight_17 : decode cX6_weight 17 = .ok (.ireturn, 1) := by decide +kernel
theorem dX6_weight_18 : decode cX6_weight 18 = .ok (.aload_n 0, 1) := by decide +kernel
theorem dX6_weight_19 : decode cX6_weight 19 = .ok (.iload_n 1, 1) := by decide +kernel
theorem dX6_weight_20 : decode cX6_weight 20 = .ok (.invokevirtual 93, 3) := by decide +kernel
theorem dX6_weight_23 : decode cX6_weight 23 = .ok (.ifCond .eq 14, 3) := by decide +kernel
theorem dX6_weight_26 : decode cX6_weight 26 = .ok (.aload_n 0, 1) := by decide +kernel
theorem dX6_weight_27 : decode cX6_weight 27 = .ok (.iload_n 1, 1) := by decide +kernel
theorem dX6_weight_28 : decode cX6_weight 28 = .ok (.iconst 1, 1) := by decide +kernel
theorem dX6_weight_29 : decode cX6_weight 29 = .ok (.iload_n 2, 1) := by decide +kernel
theorem dX6_weight_30 : decode cX6_weight 30 = .ok (.ishl, 1) := by decide +kernel
theorem dX6_weight_31 : decode cX6_weight 31 = .ok (.invokevirtual 96, 3) := by decide +kernel
theorem dX6_weight_34 : decode cX6_weight 34 = .ok (.goto 9, 3) := by decide +kernel
theorem dX6_weight_37 : decode cX6_weight 37 = .ok (.aload_n 0, 1) := by decide +kernel
theorem dX6_weight_38 : decode cX6_weight 38 = .ok (.iload_n 1, 1) := by decide +kernel
theorem dX6_weight_39 : decode cX6_weight 39 = .ok (.iload_n 2, 1) := by decide +kernel
theorem dX6_weight_40 : decode cX6_weight 40 = .ok (.invokevirtual 90, 3) := by decide +kernel
theorem dX6_weight_43 : decode cX6_weight 43 = .ok (.ireturn, 1) := by decide +kernel
theorem dX6_value_0 : decode cX6_value 0 = .ok (.aload_n 0, 1) := by decide +kernel
theorem dX6_value_1 : decode cX6_value 1 = .ok (.iload_n 1, 1) := by decide +kernel
theorem dX6_value_2 : decode cX6_value 2 = .ok (.invokevirtual 124, 3) := by decide +kernel
theorem dX6_value_5 : decode cX6_value 5 = .ok (.ifCond .eq 5, 3) := by decide +kernel
theorem dX6_value_8 : decode cX6_value 8 = .ok (.iconst (-1), 1) := by decide +kernel
theorem dX6_value_9 : decode cX6_value 9 = .ok (.ireturn, 1) := by decide +kernel
theorem dX6_value_10 : decode cX6_value 10 = .ok (.aload_n 0, 1) := by decide +kernel
theorem dX6_value_11 : decode cX6_value 11 = .ok (.iload_n 2, 1) := by decide +kernel
theorem dX6_value_12 : decode cX6_value 12 = .ok (.invokevirtual 147, 3) := by decide +kernel
theorem dX6_value_15 : decode cX6_value 15 = .ok (.ifCond .eq 6, 3) := by decide +kernel
theorem dX6_value_18 : decode cX6_value 18 = .ok (.bipush (-2), 2) := by decide +kernel
theorem dX6_value_20 : decode cX6_value 20 = .ok (.ireturn, 1) := by decide +kernel
theorem dX6_value_21 : decode cX6_value 21 = .ok (.aload_n 0, 1) := by decide +kernel
theorem dX6_value_22 : decode cX6_value 22 = .ok (.iload_n 1, 1) := by decide +kernel
theorem dX6_value_23 : decode cX6_value 23 = .ok (.invokevirtual 93, 3) := by decide +kernel
theorem dX6_value_26 : decode cX6_value 26 = .ok (.ifCond .eq 12, 3) := by decide +kernel
theorem dX6_value_29 : decode cX6_value 29 = .ok (.aload_n 0, 1) := by decide +kernel
theorem dX6_value_30 : decode cX6_value 30 = .ok (.iload_n 1, 1) := by decide +kernel
theorem dX6_value_31 : decode cX6_value 31 = .ok (.iload_n 2, 1) := by decide +kernel
theorem dX6_value_32 : decode cX6_value 32 = .ok (.invokevirtual 96, 3) := by decide +kernel
theorem dX6_value_35 : decode cX6_value 35 = .ok (.goto 12, 3) := by decide +kernel
theorem dX6_value_38 : decode cX6_value 38 = .ok (.ldc 157, 2) := by decide +kernel
theorem dX6_value_40 : decode cX6_value 40 = .ok (.aload_n 0, 1) := by decide +kernel
theorem dX6_value_41 : decode cX6_value 41 = .ok (.iload_n 1, 1) := by decide +kernel
theorem dX6_value_42 : decode cX6_value 42 = .ok (.iload_n 2, 1) := by decide +kernel
theorem dX6_value_43 : decode cX6_value 43 = .ok (.invokevirtual 99, 3) := by decide +kernel
theorem dX6_value_46 : decode cX6_value 46 = .ok (.iadd, 1) := by decide +kernel
theorem dX6_value_47 : decode cX6_value 47 = .ok (.ireturn, 1) := by decide +kernel
theorem dX6_master_0 : decode cX6_master 0 = .ok (.iload_n 1, 1) := by decide +kernel
theorem dX6_master_1 : decode cX6_master 1 = .ok (.iconst 0, 1) := by decide +kernel
theorem dX6_master_2 : decode cX6_master 2 = .ok (.iconst 4, 1) := by decide +kernel
theorem dX6_master_3 : decode cX6_master 3 = .ok (.invokestatic 46, 3) := by decide +kernel
theorem dX6_master_6 : decode cX6_master 6 = .ok (.ifCond .ne 6, 3) := by decide +kernel
theorem dX6_master_9 : decode cX6_master 9 = .ok (.bipush (-2), 2) := by decide +kernel
theorem dX6_master_11 : decode cX6_master 11 = .ok (.ireturn, 1) := by decide +kernel
theorem dX6_master_12 : decode cX6_master 12 = .ok (.iload_n 1, 1) := by decide +kernel
theorem dX6_master_13 : decode cX6_master 13 = .ok (.iconst 2, 1) := by decide +kernel
theorem dX6_master_14 : decode cX6_master 14 = .ok (.if_icmp .eq 8, 3) := by decide +kernel
theorem dX6_master_17 : decode cX6_master 17 = .ok (.iload_n 1, 1) := by decide +kernel
theorem dX6_master_18 : decode cX6_master 18 = .ok (.iconst 3, 1) := by decide +kernel
theorem dX6_master_19 : decode cX6_master 19 = .ok (.if_icmp .ne 7, 3) := by decide +kernel
theorem dX6_master_22 : decode cX6_master 22 = .ok (.iconst 0, 1) := by decide +kernel
theorem dX6_master_23 : decode cX6_master 23 = .ok (.goto 7, 3) := by decide +kernel
theorem dX6_master_26 : decode cX6_master 26 = .ok (.aload_n 0, 1) := by decide +kernel
theorem dX6_master_27 : decode cX6_master 27 = .ok (.invokevirtual 111, 3) := by decide +kernel
theorem dX6_master_30 : decode cX6_master 30 = .ok (.istore_n 2, 1) := by decide +kernel
theorem dX6_master_31 : decode cX6_master 31 = .ok (.aload_n 0, 1) := by decide +kernel
theorem dX6_master_32 : decode cX6_master 32 = .ok (.getfield 7, 3) := by decide +kernel
theorem dX6_master_35 : decode cX6_master 35 = .ok (.iconst 4, 1) := by decide +kernel
theorem dX6_master_36 : decode cX6_master 36 = .ok (.iaload, 1) := by decide +kernel
theorem dX6_master_37 : decode cX6_master 37 = .ok (.istore_n 3, 1) := by decide +kernel
theorem dX6_master_38 : decode cX6_master 38 = .ok (.iload_n 2, 1) := by decide +kernel
theorem dX6_master_39 : decode cX6_master 39 = .ok (.ifCond .lt 12, 3) := by decide +kernel
theorem dX6_master_42 : decode cX6_master 42 = .ok (.iload_n 1, 1) := by decide +kernel
theorem dX6_master_43 : decode cX6_master 43 = .ok (.iconst 1, 1) := by decide +kernel
theorem dX6_master_44 : decode cX6_master 44 = .ok (.if_icmp .le 10, 3) := by decide +kernel
theorem dX6_master_47 : decode cX6_master 47 = .ok (.iload_n 3, 1) := by decide +kernel
theorem dX6_master_48 : decode cX6_master 48 = .ok (.ifCond .ge 6, 3) := by decide +kernel
theorem dX6_master_51 : decode cX6_master 51 = .ok (.bipush (-5), 2) := by decide +kernel
theorem dX6_master_53 : decode cX6_master 53 = .ok (.ireturn, 1) := by decide +kernel
theorem dX6_master_54 : decode cX6_master 54 = .ok (.aload_n 0, 1) := by decide +kernel
theorem dX6_master_55 : decode cX6_master 55 = .ok (.iload_n 2, 1) := by decide +kernel
theorem dX6_master_56 : decode cX6_master 56 = .ok (.invokevirtual 108, 3) := by decide +kernel
theorem dX6_master_59 : decode cX6_master 59 = .ok (.istore 4, 2) := by decide +kernel
theorem dX6_master_61 : decode cX6_master 61 = .ok (.iload_n 1, 1) := by decide +kernel
theorem dX6_master_62 : decode cX6_master 62 = .ok (.iconst 1, 1) := by decide +kernel
theorem dX6_master_63 : decode cX6_master 63 = .ok (.if_icmp .le 17, 3) := by decide +kernel
theorem dX6_master_66 : decode cX6_master 66 = .ok (.aload_n 0, 1) := by decide +kernel
theorem dX6_master_67 : decode cX6_master 67 = .ok (.iload_n 3, 1) := by decide +kernel
theorem dX6_master_68 : decode cX6_master 68 = .ok (.invokevirtual 102, 3) := by decide +kernel
theorem dX6_master_71 : decode cX6_master 71 = .ok (.aload_n 0, 1) := by decide +kernel
theorem dX6_master_72 : decode cX6_master 72 = .ok (.iload_n 3, 1) := by decide +kernel
theorem dX6_master_73 : decode cX6_master 73 = .ok (.invokevirtual 115, 3) := by decide +kernel
theorem dX6_master_76 : decode cX6_master 76 = .ok (.iadd, 1) := by decide +kernel
theorem dX6_master_77 : decode cX6_master 77 = .ok (.goto 4, 3) := by decide +kernel
theorem dX6_master_80 : decode cX6_master 80 = .ok (.iconst 0, 1) := by decide +kernel
theorem dX6_master_81 : decode cX6_master 81 = .ok (.istore 5, 2) := by decide +kernel
theorem dX6_master_83 : decode cX6_master 83 = .ok (.iload_n 1, 1) := by decide +kernel
theorem dX6_master_84 : decode cX6_master 84 = .ok (.ifCond .ne 7, 3) := by decide +kernel
theorem dX6_master_87 : decode cX6_master 87 = .ok (.iload_n 2, 1) := by decide +kernel
theorem dX6_master_88 : decode cX6_master 88 = .ok (.goto 37, 3) := by decide +kernel
theorem dX6_master_91 : decode cX6_master 91 = .ok (.iload_n 1, 1) := by decide +kernel
theorem dX6_master_92 : decode cX6_master 92 = .ok (.iconst 1, 1) := by decide +kernel
theorem dX6_master_93 : decode cX6_master 93 = .ok (.if_icmp .ne 8, 3) := by decide +kernel
theorem dX6_master_96 : decode cX6_master 96 = .ok (.iload 4, 2) := by decide +kernel
theorem dX6_master_98 : decode cX6_master 98 = .ok (.goto 27, 3) := by decide +kernel
theorem dX6_master_101 : decode cX6_master 101 = .ok (.iload_n 1, 1) := by decide +kernel
theorem dX6_master_102 : decode cX6_master 102 = .ok (.iconst 2, 1) := by decide +kernel
theorem dX6_master_103 : decode cX6_master 103 = .ok (.if_icmp .ne 7, 3) := by decide +kernel
theorem dX6_master_106 : decode cX6_master 106 = .ok (.iload_n 3, 1) := by decide +kernel
theorem dX6_master_107 : decode cX6_master 107 = .ok (.goto 18, 3) := by decide +kernel
theorem dX6_master_110 : decode cX6_master 110 = .ok (.iload_n 1, 1) := by decide +kernel
theorem dX6_master_111 : decode cX6_master 111 = .ok (.iconst 3, 1) := by decide +kernel
theorem dX6_master_112 : decode cX6_master 112 = .ok (.if_icmp .ne 8, 3) := by decide +kernel
theorem dX6_master_115 : decode cX6_master 115 = .ok (.iload 5, 2) := by decide +kernel
theorem dX6_master_117 : decode cX6_master 117 = .ok (.goto 8, 3) := by decide +kernel
theorem dX6_master_120 : decode cX6_master 120 = .ok (.iload 5, 2) := by decide +kernel
theorem dX6_master_122 : decode cX6_master 122 = .ok (.iload 4, 2) := by decide +kernel
theorem dX6_master_124 : decode cX6_master 124 = .ok (.isub, 1) := by decide +kernel
theorem dX6_master_125 : decode cX6_master 125 = .ok (.ireturn, 1) := by decide +kernel
theorem dX6_byAll_0 : decode cX6_byAll 0 = .ok (.iload_n 1, 1) := by decide +kernel
theorem dX6_byAll_1 : decode cX6_byAll 1 = .ok (.iconst 0, 1) := by decide +kernel
theorem dX6_byAll_2 : decode cX6_byAll 2 = .ok (.iconst 2, 1) := by decide +kernel
theorem dX6_byAll_3 : decode cX6_byAll 3 = .ok (.invokestatic 46, 3) := by decide +kernel
theorem dX6_byAll_6 : decode cX6_byAll 6 = .ok (.ifCond .ne 6, 3) := by decide +kernel
theorem dX6_byAll_9 : decode cX6_byAll 9 = .ok (.bipush (-2), 2) := by decide +kernel
theorem dX6_byAll_11 : decode cX6_byAll 11 = .ok (.ireturn, 1) := by decide +kernel
theorem dX6_byAll_12 : decode cX6_byAll 12 = .ok (.bipush (-5), 2) := by decide +kernel
theorem dX6_byAll_14 : decode cX6_byAll 14 = .ok (.istore_n 2, 1) := by decide +kernel
theorem dX6_byAll_15 : decode cX6_byAll 15 = .ok (.iconst 0, 1) := by decide +kernel
theorem dX6_byAll_16 : decode cX6_byAll 16 = .ok (.istore_n 3, 1) := by decide +kernel
theorem dX6_byAll_17 : decode cX6_byAll 17 = .ok (.iconst 0, 1) := by decide +kernel
theorem dX6_byAll_18 : decode cX6_byAll 18 = .ok (.istore 4, 2) := by decide +kernel
theorem dX6_byAll_20 : decode cX6_byAll 20 = .ok (.iconst 0, 1) := by decide +kernel
theorem dX6_byAll_21 : decode cX6_byAll 21 = .ok (.istore 5, 2) := by decide +kernel
theorem dX6_byAll_23 : decode cX6_byAll 23 = .ok (.iload 5, 2) := by decide +kernel
theorem dX6_byAll_25 : decode cX6_byAll 25 = .ok (.iconst 1, 1) := by decide +kernel
theorem dX6_byAll_26 : decode cX6_byAll 26 = .ok (.aload_n 0, 1) := by decide +kernel
theorem dX6_byAll_27 : decode cX6_byAll 27 = .ok (.getfield 7, 3) := by decide +kernel
theorem dX6_byAll_30 : decode cX6_byAll 30 = .ok (.iconst 0, 1) := by decide +kernel
theorem dX6_byAll_31 : decode cX6_byAll 31 = .ok (.iaload, 1) := by decide +kernel
theorem dX6_byAll_32 : decode cX6_byAll 32 = .ok (.ishl, 1) := by decide +kernel
theorem dX6_byAll_33 : decode cX6_byAll 33 = .ok (.if_icmp .ge 52, 3) := by decide +kernel
theorem dX6_byAll_36 : decode cX6_byAll 36 = .ok (.aload_n 0, 1) := by decide +kernel
theorem dX6_byAll_37 : decode cX6_byAll 37 = .ok (.iload 5, 2) := by decide +kernel
theorem dX6_byAll_39 : decode cX6_byAll 39 = .ok (.invokevirtual 150, 3) := by decide +kernel
theorem dX6_byAll_42 : decode cX6_byAll 42 = .ok (.ifCond .eq 37, 3) := by decide +kernel
theorem dX6_byAll_45 : decode cX6_byAll 45 = .ok (.aload_n 0, 1) := by decide +kernel
theorem dX6_byAll_46 : decode cX6_byAll 46 = .ok (.iload 5, 2) := by decide +kernel
theorem dX6_byAll_48 : decode cX6_byAll 48 = .ok (.invokevirtual 102, 3) := by decide +kernel
theorem dX6_byAll_51 : decode cX6_byAll 51 = .ok (.aload_n 0, 1) := by decide +kernel
theorem dX6_byAll_52 : decode cX6_byAll 52 = .ok (.iload 5, 2) := by decide +kernel
theorem dX6_byAll_54 : decode cX6_byAll 54 = .ok (.invokevirtual 115, 3) := by decide +kernel
theorem dX6_byAll_57 : decode cX6_byAll 57 = .ok (.iadd, 1) := by decide +kernel
theorem dX6_byAll_58 : decode cX6_byAll 58 = .ok (.istore 6, 2) := by decide +kernel
theorem dX6_byAll_60 : decode cX6_byAll 60 = .ok (.iload_n 2, 1) := by decide +kernel
theorem dX6_byAll_61 : decode cX6_byAll 61 = .ok (.ifCond .lt 9, 3) := by decide +kernel
theorem dX6_byAll_64 : decode cX6_byAll 64 = .ok (.iload 6, 2) := by decide +kernel
theorem dX6_byAll_66 : decode cX6_byAll 66 = .ok (.iload_n 3, 1) := by decide +kernel
theorem dX6_byAll_67 : decode cX6_byAll 67 = .ok (.if_icmp .ge 9, 3) := by decide +kernel
theorem dX6_byAll_70 : decode cX6_byAll 70 = .ok (.iload 5, 2) := by decide +kernel
theorem dX6_byAll_72 : decode cX6_byAll 72 = .ok (.istore_n 2, 1) := by decide +kernel
theorem dX6_byAll_73 : decode cX6_byAll 73 = .ok (.iload 6, 2) := by decide +kernel
theorem dX6_byAll_75 : decode cX6_byAll 75 = .ok (.istore_n 3, 1) := by decide +kernel
theorem dX6_byAll_76 : decode cX6_byAll 76 = .ok (.iinc 4 1, 3) := by decide +kernel
theorem dX6_byAll_79 : decode cX6_byAll 79 = .ok (.iinc 5 1, 3) := by decide +kernel
theorem dX6_byAll_82 : decode cX6_byAll 82 = .ok (.goto (-59), 3) := by decide +kernel
theorem dX6_byAll_85 : decode cX6_byAll 85 = .ok (.iload_n 1, 1) := by decide +kernel
theorem dX6_byAll_86 : decode cX6_byAll 86 = .ok (.iconst 2, 1) := by decide +kernel
theorem dX6_byAll_87 : decode cX6_byAll 87 = .ok (.if_icmp .ne 8, 3) := by decide +kernel
theorem dX6_byAll_90 : decode cX6_byAll 90 = .ok (.iload 4, 2) := by decide +kernel
theorem dX6_byAll_92 : decode cX6_byAll 92 = .ok (.goto 21, 3) := by decide +kernel
theorem dX6_byAll_95 : decode cX6_byAll 95 = .ok (.iload_n 2, 1) := by decide +kernel
theorem dX6_byAll_96 : decode cX6_byAll 96 = .ok (.ifCond .ge 8, 3) := by decide +kernel
theorem dX6_byAll_99 : decode cX6_byAll 99 = .ok (.bipush (-5), 2) := by decide +kernel
theorem dX6_byAll_101 : decode cX6_byAll 101 = .ok (.goto 12, 3) := by decide +kernel
theorem dX6_byAll_104 : decode cX6_byAll 104 = .ok (.iload_n 1, 1) := by decide +kernel
theorem dX6_byAll_105 : decode cX6_byAll 105 = .ok (.ifCond .ne 7, 3) := by decide +kernel
theorem dX6_byAll_108 : decode cX6_byAll 108 = .ok (.iload_n 2, 1) := by decide +kernel
theorem dX6_byAll_109 : decode cX6_byAll 109 = .ok (.goto 4, 3) := by decide +kernel
theorem dX6_byAll_112 : decode cX6_byAll 112 = .ok (.iload_n 3, 1) := by decide +kernel
theorem dX6_byAll_113 : decode cX6_byAll 113 = .ok (.ireturn, 1) := by decide +kernel
theorem dX6_rays_0 : decode cX6_rays 0 = .ok (.iconst 0, 1) := by decide +kernel
theorem dX6_rays_1 : decode cX6_rays 1 = .ok (.istore_n 1, 1) := by decide +kernel
theorem dX6_rays_2 : decode cX6_rays 2 = .ok (.iconst 0, 1) := by decide +kernel
theorem dX6_rays_3 : decode cX6_rays 3 = .ok (.istore_n 2, 1) := by decide +kernel
theorem dX6_rays_4 : decode cX6_rays 4 = .ok (.iload_n 2, 1) := by decide +kernel
theorem dX6_rays_5 : decode cX6_rays 5 = .ok (.aload_n 0, 1) := by decide +kernel
theorem dX6_rays_6 : decode cX6_rays 6 = .ok (.getfield 7, 3) := by decide +kernel
theorem dX6_rays_9 : decode cX6_rays 9 = .ok (.iconst 3, 1) := by decide +kernel
theorem dX6_rays_10 : decode cX6_rays 10 = .ok (.iaload, 1) := by decide +kernel
theorem dX6_rays_11 : decode cX6_rays 11 = .ok (.if_icmp .ge 25, 3) := by decide +kernel
theorem dX6_rays_14 : decode cX6_rays 14 = .ok (.iload_n 1, 1) := by decide +kernel
theorem dX6_rays_15 : decode cX6_rays 15 = .ok (.aload_n 0, 1) := by decide +kernel
theorem dX6_rays_16 : decode cX6_rays 16 = .ok (.iload_n 2, 1) := by decide +kernel
theorem dX6_rays_17 : decode cX6_rays 17 = .ok (.invokevirtual 93, 3) := by decide +kernel
theorem dX6_rays_20 : decode cX6_rays 20 = .ok (.ifCond .eq 7, 3) := by decide +kernel
theorem dX6_rays_23 : decode cX6_rays 23 = .ok (.iconst 1, 1) := by decide +kernel
theorem dX6_rays_24 : decode cX6_rays 24 = .ok (.goto 4, 3) := by decide +kernel
theorem dX6_rays_27 : decode cX6_rays 27 = .ok (.iconst 0, 1) := by decide +kernel
theorem dX6_rays_28 : decode cX6_rays 28 = .ok (.iadd, 1) := by decide +kernel
theorem dX6_rays_29 : decode cX6_rays 29 = .ok (.istore_n 1, 1) := by decide +kernel
theorem dX6_rays_30 : decode cX6_rays 30 = .ok (.iinc 2 1, 3) := by decide +kernel
theorem dX6_rays_33 : decode cX6_rays 33 = .ok (.goto (-29), 3) := by decide +kernel
theorem dX6_rays_36 : decode cX6_rays 36 = .ok (.iload_n 1, 1) := by decide +kernel
theorem dX6_rays_37 : decode cX6_rays 37 = .ok (.ireturn, 1) := by decide +kernel
theorem dX6_pairs_0 : decode cX6_pairs 0 = .ok (.iconst 0, 1) := by decide +kernel
theorem dX6_pairs_1 : decode cX6_pairs 1 = .ok (.istore_n 1, 1) := by decide +kernel
theorem dX6_pairs_2 : decode cX6_pairs 2 = .ok (.iconst 0, 1) := by decide +kernel
theorem dX6_pairs_3 : decode cX6_pairs 3 = .ok (.istore_n 2, 1) := by decide +kernel
theorem dX6_pairs_4 : decode cX6_pairs 4 = .ok (.iload_n 2, 1) := by decide +kernel
theorem dX6_pairs_5 : decode cX6_pairs 5 = .ok (.aload_n 0, 1) := by decide +kernel
theorem dX6_pairs_6 : decode cX6_pairs 6 = .ok (.getfield 7, 3) := by decide +kernel
theorem dX6_pairs_9 : decode cX6_pairs 9 = .ok (.iconst 0, 1) := by decide +kernel
theorem dX6_pairs_10 : decode cX6_pairs 10 = .ok (.iaload, 1) := by decide +kernel
theorem dX6_pairs_11 : decode cX6_pairs 11 = .ok (.if_icmp .ge 24, 3) := by decide +kernel
theorem dX6_pairs_14 : decode cX6_pairs 14 = .ok (.iload_n 1, 1) := by decide +kernel
theorem dX6_pairs_15 : decode cX6_pairs 15 = .ok (.aload_n 0, 1) := by decide +kernel
theorem dX6_pairs_16 : decode cX6_pairs 16 = .ok (.getfield 7, 3) := by decide +kernel
theorem dX6_pairs_19 : decode cX6_pairs 19 = .ok (.bipush 77, 2) := by decide +kernel
theorem dX6_pairs_21 : decode cX6_pairs 21 = .ok (.iload_n 2, 1) := by decide +kernel
theorem dX6_pairs_22 : decode cX6_pairs 22 = .ok (.iadd, 1) := by decide +kernel
theorem dX6_pairs_23 : decode cX6_pairs 23 = .ok (.iaload, 1) := by decide +kernel
theorem dX6_pairs_24 : decode cX6_pairs 24 = .ok (.invokestatic 71, 3) := by decide +kernel
theorem dX6_pairs_27 : decode cX6_pairs 27 = .ok (.iadd, 1) := by decide +kernel
theorem dX6_pairs_28 : decode cX6_pairs 28 = .ok (.istore_n 1, 1) := by decide +kernel
theorem dX6_pairs_29 : decode cX6_pairs 29 = .ok (.iinc 2 1, 3) := by decide +kernel
theorem dX6_pairs_32 : decode cX6_pairs 32 = .ok (.goto (-28), 3) := by decide +kernel
theorem dX6_pairs_35 : decode cX6_pairs 35 = .ok (.iload_n 1, 1) := by decide +kernel
theorem dX6_pairs_36 : decode cX6_pairs 36 = .ok (.iconst 2, 1) := by decide +kernel
theorem dX6_pairs_37 : decode cX6_pairs 37 = .ok (.idiv, 1) := by decide +kernel
theorem dX6_pairs_38 : decode cX6_pairs 38 = .ok (.ireturn, 1) := by decide +kernel
theorem dX6_allRoutes_0 : decode cX6_allRoutes 0 = .ok (.iconst 0, 1) := by decide +kernel
theorem dX6_allRoutes_1 : decode cX6_allRoutes 1 = .ok (.istore_n 1, 1) := by decide +kernel
theorem dX6_allRoutes_2 : decode cX6_allRoutes 2 = .ok (.iconst 0, 1) := by decide +kernel
theorem dX6_allRoutes_3 : decode cX6_allRoutes 3 = .ok (.istore_n 2, 1) := by decide +kernel
theorem dX6_allRoutes_4 : decode cX6_allRoutes 4 = .ok (.iload_n 2, 1) := by decide +kernel
theorem dX6_allRoutes_5 : decode cX6_allRoutes 5 = .ok (.bipush 56, 2) := by decide +kernel
theorem dX6_allRoutes_7 : decode cX6_allRoutes 7 = .ok (.if_icmp .ge 31, 3) := by decide +kernel
theorem dX6_allRoutes_10 : decode cX6_allRoutes 10 = .ok (.iload_n 1, 1) := by decide +kernel
theorem dX6_allRoutes_11 : decode cX6_allRoutes 11 = .ok (.aload_n 0, 1) := by decide +kernel
theorem dX6_allRoutes_12 : decode cX6_allRoutes 12 = .ok (.getfield 7, 3) := by decide +kernel
theorem dX6_allRoutes_15 : decode cX6_allRoutes 15 = .ok (.bipush 21, 2) := by decide +kernel
theorem dX6_allRoutes_17 : decode cX6_allRoutes 17 = .ok (.iload_n 2, 1) := by decide +kernel
theorem dX6_allRoutes_18 : decode cX6_allRoutes 18 = .ok (.iadd, 1) := by decide +kernel
theorem dX6_allRoutes_19 : decode cX6_allRoutes 19 = .ok (.iaload, 1) := by decide +kernel
theorem dX6_allRoutes_20 : decode cX6_allRoutes 20 = .ok (.bipush 100, 2) := by decide +kernel
theorem dX6_allRoutes_22 : decode cX6_allRoutes 22 = .ok (.if_icmp .ge 7, 3) := by decide +kernel
theorem dX6_allRoutes_25 : decode cX6_allRoutes 25 = .ok (.iconst 1, 1) := by decide +kernel
theorem dX6_allRoutes_26 : decode cX6_allRoutes 26 = .ok (.goto 4, 3) := by decide +kernel
theorem dX6_allRoutes_29 : decode cX6_allRoutes 29 = .ok (.iconst 0, 1) := by decide +kernel
theorem dX6_allRoutes_30 : decode cX6_allRoutes 30 = .ok (.iadd, 1) := by decide +kernel
theorem dX6_allRoutes_31 : decode cX6_allRoutes 31 = .ok (.istore_n 1, 1) := by decide +kernel
theorem dX6_allRoutes_32 : decode cX6_allRoutes 32 = .ok (.iinc 2 1, 3) := by decide +kernel
theorem dX6_allRoutes_35 : decode cX6_allRoutes 35 = .ok (.goto (-31), 3) := by decide +kernel
theorem dX6_allRoutes_38 : decode cX6_allRoutes 38 = .ok (.iload_n 1, 1) := by decide +kernel
theorem dX6_allRoutes_39 : decode cX6_allRoutes 39 = .ok (.ireturn, 1) := by decide +kernel
theorem dX6_count_0 : decode cX6_count 0 = .ok (.iload_n 1, 1) := by decide +kernel
theorem dX6_count_1 : decode cX6_count 1 = .ok (.tableswitch 115 0 9 #[55, 62, 69, 74, 81, 86, 93, 98, 105, 110], 55) := by decide +kernel
theorem dX6_count_56 : decode cX6_count 56 = .ok (.aload_n 0, 1) := by decide +kernel
theorem dX6_count_57 : decode cX6_count 57 = .ok (.getfield 7, 3) := by decide +kernel
theorem dX6_count_60 : decode cX6_count 60 = .ok (.iconst 0, 1) := by decide +kernel
theorem dX6_count_61 : decode cX6_count 61 = .ok (.iaload, 1) := by decide +kernel
theorem dX6_count_62 : decode cX6_count 62 = .ok (.ireturn, 1) := by decide +kernel
theorem dX6_count_63 : decode cX6_count 63 = .ok (.aload_n 0, 1) := by decide +kernel
theorem dX6_count_64 : decode cX6_count 64 = .ok (.getfield 7, 3) := by decide +kernel
theorem dX6_count_67 : decode cX6_count 67 = .ok (.iconst 1, 1) := by decide +kernel
theorem dX6_count_68 : decode cX6_count 68 = .ok (.iaload, 1) := by decide +kernel
theorem dX6_count_69 : decode cX6_count 69 = .ok (.ireturn, 1) := by decide +kernel
theorem dX6_count_70 : decode cX6_count 70 = .ok (.aload_n 0, 1) := by decide +kernel
theorem dX6_count_71 : decode cX6_count 71 = .ok (.invokevirtual 158, 3) := by decide +kernel
theorem dX6_count_74 : decode cX6_count 74 = .ok (.ireturn, 1) := by decide +kernel
theorem dX6_count_75 : decode cX6_count 75 = .ok (.aload_n 0, 1) := by decide +kernel
theorem dX6_count_76 : decode cX6_count 76 = .ok (.getfield 7, 3) := by decide +kernel
theorem dX6_count_79 : decode cX6_count 79 = .ok (.iconst 2, 1) := by decide +kernel
theorem dX6_count_80 : decode cX6_count 80 = .ok (.iaload, 1) := by decide +kernel
theorem dX6_count_81 : decode cX6_count 81 = .ok (.ireturn, 1) := by decide +kernel
theorem dX6_count_82 : decode cX6_count 82 = .ok (.aload_n 0, 1) := by decide +kernel
theorem dX6_count_83 : decode cX6_count 83 = .ok (.invokevirtual 161, 3) := by decide +kernel
theorem dX6_count_86 : decode cX6_count 86 = .ok (.ireturn, 1) := by decide +kernel
theorem dX6_count_87 : decode cX6_count 87 = .ok (.aload_n 0, 1) := by decide +kernel
theorem dX6_count_88 : decode cX6_count 88 = .ok (.getfield 7, 3) := by decide +kernel
theorem dX6_count_91 : decode cX6_count 91 = .ok (.iconst 3, 1) := by decide +kernel
theorem dX6_count_92 : decode cX6_count 92 = .ok (.iaload, 1) := by decide +kernel
theorem dX6_count_93 : decode cX6_count 93 = .ok (.ireturn, 1) := by decide +kernel
theorem dX6_count_94 : decode cX6_count 94 = .ok (.aload_n 0, 1) := by decide +kernel
theorem dX6_count_95 : decode cX6_count 95 = .ok (.invokevirtual 164, 3) := by decide +kernel
theorem dX6_count_98 : decode cX6_count 98 = .ok (.ireturn, 1) := by decide +kernel
theorem dX6_count_99 : decode cX6_count 99 = .ok (.aload_n 0, 1) := by decide +kernel
theorem dX6_count_100 : decode cX6_count 100 = .ok (.getfield 7, 3) := by decide +kernel
theorem dX6_count_103 : decode cX6_count 103 = .ok (.iconst 5, 1) := by decide +kernel
theorem dX6_count_104 : decode cX6_count 104 = .ok (.iaload, 1) := by decide +kernel
theorem dX6_count_105 : decode cX6_count 105 = .ok (.ireturn, 1) := by decide +kernel
theorem dX6_count_106 : decode cX6_count 106 = .ok (.aload_n 0, 1) := by decide +kernel
theorem dX6_count_107 : decode cX6_count 107 = .ok (.getfield 29, 3) := by decide +kernel
theorem dX6_count_110 : decode cX6_count 110 = .ok (.ireturn, 1) := by decide +kernel
theorem dX6_count_111 : decode cX6_count 111 = .ok (.aload_n 0, 1) := by decide +kernel
theorem dX6_count_112 : decode cX6_count 112 = .ok (.getfield 134, 3) := by decide +kernel
theorem dX6_count_115 : decode cX6_count 115 = .ok (.ireturn, 1) := by decide +kernel
theorem dX6_count_116 : decode cX6_count 116 = .ok (.bipush (-2), 2) := by decide +kernel
theorem dX6_count_118 : decode cX6_count 118 = .ok (.ireturn, 1) := by decide +kernel
