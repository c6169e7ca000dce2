theorem dX0_init_0 : decode cX0_init 0 = .ok (.aload_n 0, 1) := by decide +kernel
theorem dX0_init_1 : decode cX0_init 1 = .ok (.invokespecial 3, 3) := by decide +kernel
theorem dX0_init_4 : decode cX0_init 4 = .ok (.aload_n 0, 1) := by decide +kernel
theorem dX0_init_5 : decode cX0_init 5 = .ok (.bipush 60, 2) := by decide +kernel
theorem dX0_init_7 : decode cX0_init 7 = .ok (.newarray .char, 2) := by decide +kernel
theorem dX0_init_9 : decode cX0_init 9 = .ok (.putfield 9, 3) := by decide +kernel
theorem dX0_init_12 : decode cX0_init 12 = .ok (.aload_n 0, 1) := by decide +kernel
theorem dX0_init_13 : decode cX0_init 13 = .ok (.iconst 0, 1) := by decide +kernel
theorem dX0_init_14 : decode cX0_init 14 = .ok (.putfield 15, 3) := by decide +kernel
theorem dX0_init_17 : decode cX0_init 17 = .ok (.return_, 1) := by decide +kernel
theorem dX0_isFull_0 : decode cX0_isFull 0 = .ok (.aload_n 0, 1) := by decide +kernel
theorem dX0_isFull_1 : decode cX0_isFull 1 = .ok (.getfield 15, 3) := by decide +kernel
theorem dX0_isFull_4 : decode cX0_isFull 4 = .ok (.bipush 60, 2) := by decide +kernel
theorem dX0_isFull_6 : decode cX0_isFull 6 = .ok (.if_icmp .lt 7, 3) := by decide +kernel
theorem dX0_isFull_9 : decode cX0_isFull 9 = .ok (.iconst 1, 1) := by decide +kernel
theorem dX0_isFull_10 : decode cX0_isFull 10 = .ok (.goto 4, 3) := by decide +kernel
theorem dX0_isFull_13 : decode cX0_isFull 13 = .ok (.iconst 0, 1) := by decide +kernel
theorem dX0_isFull_14 : decode cX0_isFull 14 = .ok (.ireturn, 1) := by decide +kernel
theorem dX0_append_0 : decode cX0_append 0 = .ok (.aload_n 0, 1) := by decide +kernel
theorem dX0_append_1 : decode cX0_append 1 = .ok (.getfield 15, 3) := by decide +kernel
theorem dX0_append_4 : decode cX0_append 4 = .ok (.bipush 60, 2) := by decide +kernel
theorem dX0_append_6 : decode cX0_append 6 = .ok (.if_icmp .ge 23, 3) := by decide +kernel
theorem dX0_append_9 : decode cX0_append 9 = .ok (.aload_n 0, 1) := by decide +kernel
theorem dX0_append_10 : decode cX0_append 10 = .ok (.getfield 9, 3) := by decide +kernel
theorem dX0_append_13 : decode cX0_append 13 = .ok (.aload_n 0, 1) := by decide +kernel
theorem dX0_append_14 : decode cX0_append 14 = .ok (.getfield 15, 3) := by decide +kernel
theorem dX0_append_17 : decode cX0_append 17 = .ok (.iload_n 1, 1) := by decide +kernel
theorem dX0_append_18 : decode cX0_append 18 = .ok (.castore, 1) := by decide +kernel
theorem dX0_append_19 : decode cX0_append 19 = .ok (.aload_n 0, 1) := by decide +kernel
theorem dX0_append_20 : decode cX0_append 20 = .ok (.dup, 1) := by decide +kernel
theorem dX0_append_21 : decode cX0_append 21 = .ok (.getfield 15, 3) := by decide +kernel
theorem dX0_append_24 : decode cX0_append 24 = .ok (.iconst 1, 1) := by decide +kernel
theorem dX0_append_25 : decode cX0_append 25 = .ok (.iadd, 1) := by decide +kernel
theorem dX0_append_26 : decode cX0_append 26 = .ok (.putfield 15, 3) := by decide +kernel
theorem dX0_append_29 : decode cX0_append 29 = .ok (.return_, 1) := by decide +kernel
theorem dX0_readNumbers_0 : decode cX0_readNumbers 0 = .ok (.iconst 0, 1) := by decide +kernel
theorem dX0_readNumbers_1 : decode cX0_readNumbers 1 = .ok (.istore_n 3, 1) := by decide +kernel
theorem dX0_readNumbers_2 : decode cX0_readNumbers 2 = .ok (.iconst 0, 1) := by decide +kernel
theorem dX0_readNumbers_3 : decode cX0_readNumbers 3 = .ok (.istore 4, 2) := by decide +kernel
theorem dX0_readNumbers_5 : decode cX0_readNumbers 5 = .ok (.iload 4, 2) := by decide +kernel
theorem dX0_readNumbers_7 : decode cX0_readNumbers 7 = .ok (.iload_n 2, 1) := by decide +kernel
theorem dX0_readNumbers_8 : decode cX0_readNumbers 8 = .ok (.if_icmp .ge 82, 3) := by decide +kernel
theorem dX0_readNumbers_11 : decode cX0_readNumbers 11 = .ok (.iload 4, 2) := by decide +kernel
theorem dX0_readNumbers_13 : decode cX0_readNumbers 13 = .ok (.ifCond .le 16, 3) := by decide +kernel
theorem dX0_readNumbers_16 : decode cX0_readNumbers 16 = .ok (.aload_n 0, 1) := by decide +kernel
theorem dX0_readNumbers_17 : decode cX0_readNumbers 17 = .ok (.iload_n 3, 1) := by decide +kernel
theorem dX0_readNumbers_18 : decode cX0_readNumbers 18 = .ok (.invokevirtual 19, 3) := by decide +kernel
theorem dX0_readNumbers_21 : decode cX0_readNumbers 21 = .ok (.ifCond .ne 5, 3) := by decide +kernel
theorem dX0_readNumbers_24 : decode cX0_readNumbers 24 = .ok (.iload_n 3, 1) := by decide +kernel
theorem dX0_readNumbers_25 : decode cX0_readNumbers 25 = .ok (.ireturn, 1) := by decide +kernel
theorem dX0_readNumbers_26 : decode cX0_readNumbers 26 = .ok (.iinc 3 1, 3) := by decide +kernel
theorem dX0_readNumbers_29 : decode cX0_readNumbers 29 = .ok (.aload_n 0, 1) := by decide +kernel
theorem dX0_readNumbers_30 : decode cX0_readNumbers 30 = .ok (.iload_n 3, 1) := by decide +kernel
theorem dX0_readNumbers_31 : decode cX0_readNumbers 31 = .ok (.invokevirtual 23, 3) := by decide +kernel
theorem dX0_readNumbers_34 : decode cX0_readNumbers 34 = .ok (.ifCond .ne 5, 3) := by decide +kernel
theorem dX0_readNumbers_37 : decode cX0_readNumbers 37 = .ok (.iload_n 3, 1) := by decide +kernel
theorem dX0_readNumbers_38 : decode cX0_readNumbers 38 = .ok (.ireturn, 1) := by decide +kernel
theorem dX0_readNumbers_39 : decode cX0_readNumbers 39 = .ok (.aload_n 0, 1) := by decide +kernel
theorem dX0_readNumbers_40 : decode cX0_readNumbers 40 = .ok (.iload_n 3, 1) := by decide +kernel
theorem dX0_readNumbers_41 : decode cX0_readNumbers 41 = .ok (.invokevirtual 26, 3) := by decide +kernel
theorem dX0_readNumbers_44 : decode cX0_readNumbers 44 = .ok (.istore 5, 2) := by decide +kernel
theorem dX0_readNumbers_46 : decode cX0_readNumbers 46 = .ok (.iinc 3 1, 3) := by decide +kernel
theorem dX0_readNumbers_49 : decode cX0_readNumbers 49 = .ok (.iload 5, 2) := by decide +kernel
theorem dX0_readNumbers_51 : decode cX0_readNumbers 51 = .ok (.ifCond .eq 27, 3) := by decide +kernel
theorem dX0_readNumbers_54 : decode cX0_readNumbers 54 = .ok (.aload_n 0, 1) := by decide +kernel
theorem dX0_readNumbers_55 : decode cX0_readNumbers 55 = .ok (.iload_n 3, 1) := by decide +kernel
theorem dX0_readNumbers_56 : decode cX0_readNumbers 56 = .ok (.invokevirtual 23, 3) := by decide +kernel
theorem dX0_readNumbers_59 : decode cX0_readNumbers 59 = .ok (.ifCond .eq 19, 3) := by decide +kernel
theorem dX0_readNumbers_62 : decode cX0_readNumbers 62 = .ok (.iload 5, 2) := by decide +kernel
theorem dX0_readNumbers_64 : decode cX0_readNumbers 64 = .ok (.bipush 10, 2) := by decide +kernel
theorem dX0_readNumbers_66 : decode cX0_readNumbers 66 = .ok (.imul, 1) := by decide +kernel
theorem dX0_readNumbers_67 : decode cX0_readNumbers 67 = .ok (.aload_n 0, 1) := by decide +kernel
theorem dX0_readNumbers_68 : decode cX0_readNumbers 68 = .ok (.iload_n 3, 1) := by decide +kernel
theorem dX0_readNumbers_69 : decode cX0_readNumbers 69 = .ok (.invokevirtual 26, 3) := by decide +kernel
theorem dX0_readNumbers_72 : decode cX0_readNumbers 72 = .ok (.iadd, 1) := by decide +kernel
theorem dX0_readNumbers_73 : decode cX0_readNumbers 73 = .ok (.istore 5, 2) := by decide +kernel
theorem dX0_readNumbers_75 : decode cX0_readNumbers 75 = .ok (.iinc 3 1, 3) := by decide +kernel
theorem dX0_readNumbers_78 : decode cX0_readNumbers 78 = .ok (.aload_n 1, 1) := by decide +kernel
theorem dX0_readNumbers_79 : decode cX0_readNumbers 79 = .ok (.iload 4, 2) := by decide +kernel
theorem dX0_readNumbers_81 : decode cX0_readNumbers 81 = .ok (.iload 5, 2) := by decide +kernel
theorem dX0_readNumbers_83 : decode cX0_readNumbers 83 = .ok (.iastore, 1) := by decide +kernel
theorem dX0_readNumbers_84 : decode cX0_readNumbers 84 = .ok (.iinc 4 1, 3) := by decide +kernel
theorem dX0_readNumbers_87 : decode cX0_readNumbers 87 = .ok (.goto (-82), 3) := by decide +kernel
theorem dX0_readNumbers_90 : decode cX0_readNumbers 90 = .ok (.iload_n 3, 1) := by decide +kernel
theorem dX0_readNumbers_91 : decode cX0_readNumbers 91 = .ok (.aload_n 0, 1) := by decide +kernel
theorem dX0_readNumbers_92 : decode cX0_readNumbers 92 = .ok (.getfield 15, 3) := by decide +kernel
theorem dX0_readNumbers_95 : decode cX0_readNumbers 95 = .ok (.if_icmp .ge 7, 3) := by decide +kernel
theorem dX0_readNumbers_98 : decode cX0_readNumbers 98 = .ok (.iload_n 3, 1) := by decide +kernel
theorem dX0_readNumbers_99 : decode cX0_readNumbers 99 = .ok (.goto 4, 3) := by decide +kernel
theorem dX0_readNumbers_102 : decode cX0_readNumbers 102 = .ok (.iconst (-1), 1) := by decide +kernel
theorem dX0_readNumbers_103 : decode cX0_readNumbers 103 = .ok (.ireturn, 1) := by decide +kernel
theorem dX0_isCommaAt_0 : decode cX0_isCommaAt 0 = .ok (.iload_n 1, 1) := by decide +kernel
theorem dX0_isCommaAt_1 : decode cX0_isCommaAt 1 = .ok (.ifCond .lt 26, 3) := by decide +kernel
theorem dX0_isCommaAt_4 : decode cX0_isCommaAt 4 = .ok (.iload_n 1, 1) := by decide +kernel
theorem dX0_isCommaAt_5 : decode cX0_isCommaAt 5 = .ok (.aload_n 0, 1) := by decide +kernel
theorem dX0_isCommaAt_6 : decode cX0_isCommaAt 6 = .ok (.getfield 15, 3) := by decide +kernel
theorem dX0_isCommaAt_9 : decode cX0_isCommaAt 9 = .ok (.if_icmp .ge 18, 3) := by decide +kernel
theorem dX0_isCommaAt_12 : decode cX0_isCommaAt 12 = .ok (.aload_n 0, 1) := by decide +kernel
theorem dX0_isCommaAt_13 : decode cX0_isCommaAt 13 = .ok (.getfield 9, 3) := by decide +kernel
theorem dX0_isCommaAt_16 : decode cX0_isCommaAt 16 = .ok (.iload_n 1, 1) := by decide +kernel
theorem dX0_isCommaAt_17 : decode cX0_isCommaAt 17 = .ok (.caload, 1) := by decide +kernel
theorem dX0_isCommaAt_18 : decode cX0_isCommaAt 18 = .ok (.bipush 44, 2) := by decide +kernel
theorem dX0_isCommaAt_20 : decode cX0_isCommaAt 20 = .ok (.if_icmp .ne 7, 3) := by decide +kernel
theorem dX0_isCommaAt_23 : decode cX0_isCommaAt 23 = .ok (.iconst 1, 1) := by decide +kernel
theorem dX0_isCommaAt_24 : decode cX0_isCommaAt 24 = .ok (.goto 4, 3) := by decide +kernel
theorem dX0_isCommaAt_27 : decode cX0_isCommaAt 27 = .ok (.iconst 0, 1) := by decide +kernel
theorem dX0_isCommaAt_28 : decode cX0_isCommaAt 28 = .ok (.ireturn, 1) := by decide +kernel
theorem dX0_isDigitAt_0 : decode cX0_isDigitAt 0 = .ok (.iload_n 1, 1) := by decide +kernel
theorem dX0_isDigitAt_1 : decode cX0_isDigitAt 1 = .ok (.ifCond .lt 37, 3) := by decide +kernel
theorem dX0_isDigitAt_4 : decode cX0_isDigitAt 4 = .ok (.iload_n 1, 1) := by decide +kernel
theorem dX0_isDigitAt_5 : decode cX0_isDigitAt 5 = .ok (.aload_n 0, 1) := by decide +kernel
theorem dX0_isDigitAt_6 : decode cX0_isDigitAt 6 = .ok (.getfield 15, 3) := by decide +kernel
theorem dX0_isDigitAt_9 : decode cX0_isDigitAt 9 = .ok (.if_icmp .ge 29, 3) := by decide +kernel
theorem dX0_isDigitAt_12 : decode cX0_isDigitAt 12 = .ok (.aload_n 0, 1) := by decide +kernel
theorem dX0_isDigitAt_13 : decode cX0_isDigitAt 13 = .ok (.getfield 9, 3) := by decide +kernel
theorem dX0_isDigitAt_16 : decode cX0_isDigitAt 16 = .ok (.iload_n 1, 1) := by decide +kernel
theorem dX0_isDigitAt_17 : decode cX0_isDigitAt 17 = .ok (.caload, 1) := by decide +kernel
theorem dX0_isDigitAt_18 : decode cX0_isDigitAt 18 = .ok (.bipush 48, 2) := by decide +kernel
theorem dX0_isDigitAt_20 : decode cX0_isDigitAt 20 = .ok (.if_icmp .lt 18, 3) := by decide +kernel
theorem dX0_isDigitAt_23 : decode cX0_isDigitAt 23 = .ok (.aload_n 0, 1) := by decide +kernel
theorem dX0_isDigitAt_24 : decode cX0_isDigitAt 24 = .ok (.getfield 9, 3) := by decide +kernel
theorem dX0_isDigitAt_27 : decode cX0_isDigitAt 27 = .ok (.iload_n 1, 1) := by decide +kernel
theorem dX0_isDigitAt_28 : decode cX0_isDigitAt 28 = .ok (.caload, 1) := by decide +kernel
theorem dX0_isDigitAt_29 : decode cX0_isDigitAt 29 = .ok (.bipush 57, 2) := by decide +kernel
theorem dX0_isDigitAt_31 : decode cX0_isDigitAt 31 = .ok (.if_icmp .gt 7, 3) := by decide +kernel
theorem dX0_isDigitAt_34 : decode cX0_isDigitAt 34 = .ok (.iconst 1, 1) := by decide +kernel
theorem dX0_isDigitAt_35 : decode cX0_isDigitAt 35 = .ok (.goto 4, 3) := by decide +kernel
theorem dX0_isDigitAt_38 : decode cX0_isDigitAt 38 = .ok (.iconst 0, 1) := by decide +kernel
theorem dX0_isDigitAt_39 : decode cX0_isDigitAt 39 = .ok (.ireturn, 1) := by decide +kernel
theorem dX0_digitAt_0 : decode cX0_digitAt 0 = .ok (.aload_n 0, 1) := by decide +kernel
theorem dX0_digitAt_1 : decode cX0_digitAt 1 = .ok (.iload_n 1, 1) := by decide +kernel
theorem dX0_digitAt_2 : decode cX0_digitAt 2 = .ok (.invokevirtual 23, 3) := by decide +kernel
theorem dX0_digitAt_5 : decode cX0_digitAt 5 = .ok (.ifCond .eq 15, 3) := by decide +kernel
theorem dX0_digitAt_8 : decode cX0_digitAt 8 = .ok (.aload_n 0, 1) := by decide +kernel
theorem dX0_digitAt_9 : decode cX0_digitAt 9 = .ok (.getfield 9, 3) := by decide +kernel
theorem dX0_digitAt_12 : decode cX0_digitAt 12 = .ok (.iload_n 1, 1) := by decide +kernel
theorem dX0_digitAt_13 : decode cX0_digitAt 13 = .ok (.caload, 1) := by decide +kernel
theorem dX0_digitAt_14 : decode cX0_digitAt 14 = .ok (.bipush 48, 2) := by decide +kernel
theorem dX0_digitAt_16 : decode cX0_digitAt 16 = .ok (.isub, 1) := by decide +kernel
theorem dX0_digitAt_17 : decode cX0_digitAt 17 = .ok (.goto 4, 3) := by decide +kernel
theorem dX0_digitAt_20 : decode cX0_digitAt 20 = .ok (.iconst 0, 1) := by decide +kernel
theorem dX0_digitAt_21 : decode cX0_digitAt 21 = .ok (.ireturn, 1) := by decide +kernel
theorem dX1_init_0 : decode cX1_init 0 = .ok (.aload_n 0, 1) := by decide +kernel
theorem dX1_init_1 : decode cX1_init 1 = .ok (.invokespecial 3, 3) := by decide +kernel
theorem dX1_init_4 : decode cX1_init 4 = .ok (.aload_n 0, 1) := by decide +kernel
theorem dX1_init_5 : decode cX1_init 5 = .ok (.iconst 0, 1) := by decide +kernel
theorem dX1_init_6 : decode cX1_init 6 = .ok (.putfield 9, 3) := by decide +kernel
theorem dX1_init_9 : decode cX1_init 9 = .ok (.aload_n 0, 1) := by decide +kernel
theorem dX1_init_10 : decode cX1_init 10 = .ok (.bipush 40, 2) := by decide +kernel
theorem dX1_init_12 : decode cX1_init 12 = .ok (.newarray .int, 2) := by decide +kernel
theorem dX1_init_14 : decode cX1_init 14 = .ok (.putfield 15, 3) := by decide +kernel
theorem dX1_init_17 : decode cX1_init 17 = .ok (.aload_n 0, 1) := by decide +kernel
theorem dX1_init_18 : decode cX1_init 18 = .ok (.bipush 40, 2) := by decide +kernel
theorem dX1_init_20 : decode cX1_init 20 = .ok (.newarray .int, 2) := by decide +kernel
theorem dX1_init_22 : decode cX1_init 22 = .ok (.putfield 19, 3) := by decide +kernel
theorem dX1_init_25 : decode cX1_init 25 = .ok (.aload_n 0, 1) := by decide +kernel
theorem dX1_init_26 : decode cX1_init 26 = .ok (.bipush 40, 2) := by decide +kernel
theorem dX1_init_28 : decode cX1_init 28 = .ok (.bipush 7, 2) := by decide +kernel
theorem dX1_init_30 : decode cX1_init 30 = .ok (.multianewarray 22 2, 4) := by decide +kernel
theorem dX1_init_34 : decode cX1_init 34 = .ok (.putfield 24, 3) := by decide +kernel
theorem dX1_init_37 : decode cX1_init 37 = .ok (.return_, 1) := by decide +kernel
theorem dX1_copyFrom_0 : decode cX1_copyFrom 0 = .ok (.aload_n 0, 1) := by decide +kernel
theorem dX1_copyFrom_1 : decode cX1_copyFrom 1 = .ok (.aload_n 1, 1) := by decide +kernel
theorem dX1_copyFrom_2 : decode cX1_copyFrom 2 = .ok (.getfield 9, 3) := by decide +kernel
theorem dX1_copyFrom_5 : decode cX1_copyFrom 5 = .ok (.putfield 9, 3) := by decide +kernel
theorem dX1_copyFrom_8 : decode cX1_copyFrom 8 = .ok (.iconst 0, 1) := by decide +kernel
theorem dX1_copyFrom_9 : decode cX1_copyFrom 9 = .ok (.istore_n 2, 1) := by decide +kernel
theorem dX1_copyFrom_10 : decode cX1_copyFrom 10 = .ok (.iload_n 2, 1) := by decide +kernel
theorem dX1_copyFrom_11 : decode cX1_copyFrom 11 = .ok (.aload_n 0, 1) := by decide +kernel
theorem dX1_copyFrom_12 : decode cX1_copyFrom 12 = .ok (.getfield 9, 3) := by decide +kernel
theorem dX1_copyFrom_15 : decode cX1_copyFrom 15 = .ok (.if_icmp .ge 22, 3) := by decide +kernel
theorem dX1_copyFrom_18 : decode cX1_copyFrom 18 = .ok (.iload_n 2, 1) := by decide +kernel
theorem dX1_copyFrom_19 : decode cX1_copyFrom 19 = .ok (.bipush 40, 2) := by decide +kernel
theorem dX1_copyFrom_21 : decode cX1_copyFrom 21 = .ok (.if_icmp .ge 16, 3) := by decide +kernel
theorem dX1_copyFrom_24 : decode cX1_copyFrom 24 = .ok (.aload_n 0, 1) := by decide +kernel
theorem dX1_copyFrom_25 : decode cX1_copyFrom 25 = .ok (.aload_n 1, 1) := by decide +kernel
theorem dX1_copyFrom_26 : decode cX1_copyFrom 26 = .ok (.iload_n 2, 1) := by decide +kernel
theorem dX1_copyFrom_27 : decode cX1_copyFrom 27 = .ok (.iload_n 2, 1) := by decide +kernel
theorem dX1_copyFrom_28 : decode cX1_copyFrom 28 = .ok (.invokevirtual 27, 3) := by decide +kernel
theorem dX1_copyFrom_31 : decode cX1_copyFrom 31 = .ok (.iinc 2 1, 3) := by decide +kernel
theorem dX1_copyFrom_34 : decode cX1_copyFrom 34 = .ok (.goto (-24), 3) := by decide +kernel
theorem dX1_copyFrom_37 : decode cX1_copyFrom 37 = .ok (.return_, 1) := by decide +kernel
theorem dX1_copyCut_0 : decode cX1_copyCut 0 = .ok (.aload_n 0, 1) := by decide +kernel
theorem dX1_copyCut_1 : decode cX1_copyCut 1 = .ok (.getfield 15, 3) := by decide +kernel
theorem dX1_copyCut_4 : decode cX1_copyCut 4 = .ok (.iload_n 3, 1) := by decide +kernel
theorem dX1_copyCut_5 : decode cX1_copyCut 5 = .ok (.aload_n 1, 1) := by decide +kernel
theorem dX1_copyCut_6 : decode cX1_copyCut 6 = .ok (.getfield 15, 3) := by decide +kernel
theorem dX1_copyCut_9 : decode cX1_copyCut 9 = .ok (.iload_n 2, 1) := by decide +kernel
theorem dX1_copyCut_10 : decode cX1_copyCut 10 = .ok (.iaload, 1) := by decide +kernel
theorem dX1_copyCut_11 : decode cX1_copyCut 11 = .ok (.iastore, 1) := by decide +kernel
theorem dX1_copyCut_12 : decode cX1_copyCut 12 = .ok (.aload_n 0, 1) := by decide +kernel
theorem dX1_copyCut_13 : decode cX1_copyCut 13 = .ok (.getfield 19, 3) := by decide +kernel
theorem dX1_copyCut_16 : decode cX1_copyCut 16 = .ok (.iload_n 3, 1) := by decide +kernel
theorem dX1_copyCut_17 : decode cX1_copyCut 17 = .ok (.aload_n 1, 1) := by decide +kernel
theorem dX1_copyCut_18 : decode cX1_copyCut 18 = .ok (.getfield 19, 3) := by decide +kernel
theorem dX1_copyCut_21 : decode cX1_copyCut 21 = .ok (.iload_n 2, 1) := by decide +kernel
theorem dX1_copyCut_22 : decode cX1_copyCut 22 = .ok (.iaload, 1) := by decide +kernel
theorem dX1_copyCut_23 : decode cX1_copyCut 23 = .ok (.iastore, 1) := by decide +kernel
theorem dX1_copyCut_24 : decode cX1_copyCut 24 = .ok (.iconst 0, 1) := by decide +kernel
theorem dX1_copyCut_25 : decode cX1_copyCut 25 = .ok (.istore 4, 2) := by decide +kernel
theorem dX1_copyCut_27 : decode cX1_copyCut 27 = .ok (.iload 4, 2) := by decide +kernel
theorem dX1_copyCut_29 : decode cX1_copyCut 29 = .ok (.bipush 7, 2) := by decide +kernel
theorem dX1_copyCut_31 : decode cX1_copyCut 31 = .ok (.if_icmp .ge 27, 3) := by decide +kernel
theorem dX1_copyCut_34 : decode cX1_copyCut 34 = .ok (.aload_n 0, 1) := by decide +kernel
theorem dX1_copyCut_35 : decode cX1_copyCut 35 = .ok (.getfield 24, 3) := by decide +kernel
theorem dX1_copyCut_38 : decode cX1_copyCut 38 = .ok (.iload_n 3, 1) := by decide +kernel
theorem dX1_copyCut_39 : decode cX1_copyCut 39 = .ok (.aaload, 1) := by decide +kernel
theorem dX1_copyCut_40 : decode cX1_copyCut 40 = .ok (.iload 4, 2) := by decide +kernel
theorem dX1_copyCut_42 : decode cX1_copyCut 42 = .ok (.aload_n 1, 1) := by decide +kernel
theorem dX1_copyCut_43 : decode cX1_copyCut 43 = .ok (.getfield 24, 3) := by decide +kernel
theorem dX1_copyCut_46 : decode cX1_copyCut 46 = .ok (.iload_n 2, 1) := by decide +kernel
theorem dX1_copyCut_47 : decode cX1_copyCut 47 = .ok (.aaload, 1) := by decide +kernel
theorem dX1_copyCut_48 : decode cX1_copyCut 48 = .ok (.iload 4, 2) := by decide +kernel
theorem dX1_copyCut_50 : decode cX1_copyCut 50 = .ok (.iaload, 1) := by decide +kernel
theorem dX1_copyCut_51 : decode cX1_copyCut 51 = .ok (.iastore, 1) := by decide +kernel
theorem dX1_copyCut_52 : decode cX1_copyCut 52 = .ok (.iinc 4 1, 3) := by decide +kernel
theorem dX1_copyCut_55 : decode cX1_copyCut 55 = .ok (.goto (-28), 3) := by decide +kernel
theorem dX1_copyCut_58 : decode cX1_copyCut 58 = .ok (.return_, 1) := by decide +kernel
theorem dX1_isCut_0 : decode cX1_isCut 0 = .ok (.iload_n 1, 1) := by decide +kernel
theorem dX1_isCut_1 : decode cX1_isCut 1 = .ok (.ifCond .lt 15, 3) := by decide +kernel
theorem dX1_isCut_4 : decode cX1_isCut 4 = .ok (.iload_n 1, 1) := by decide +kernel
theorem dX1_isCut_5 : decode cX1_isCut 5 = .ok (.aload_n 0, 1) := by decide +kernel
theorem dX1_isCut_6 : decode cX1_isCut 6 = .ok (.getfield 9, 3) := by decide +kernel
theorem dX1_isCut_9 : decode cX1_isCut 9 = .ok (.if_icmp .ge 7, 3) := by decide +kernel
theorem dX1_isCut_12 : decode cX1_isCut 12 = .ok (.iconst 1, 1) := by decide +kernel
theorem dX1_isCut_13 : decode cX1_isCut 13 = .ok (.goto 4, 3) := by decide +kernel
theorem dX1_isCut_16 : decode cX1_isCut 16 = .ok (.iconst 0, 1) := by decide +kernel
theorem dX1_isCut_17 : decode cX1_isCut 17 = .ok (.ireturn, 1) := by decide +kernel
theorem dX1_isFull_0 : decode cX1_isFull 0 = .ok (.aload_n 0, 1) := by decide +kernel
theorem dX1_isFull_1 : decode cX1_isFull 1 = .ok (.getfield 9, 3) := by decide +kernel
theorem dX1_isFull_4 : decode cX1_isFull 4 = .ok (.bipush 40, 2) := by decide +kernel
theorem dX1_isFull_6 : decode cX1_isFull 6 = .ok (.if_icmp .lt 7, 3) := by decide +kernel
theorem dX1_isFull_9 : decode cX1_isFull 9 = .ok (.iconst 1, 1) := by decide +kernel
theorem dX1_isFull_10 : decode cX1_isFull 10 = .ok (.goto 4, 3) := by decide +kernel
theorem dX1_isFull_13 : decode cX1_isFull 13 = .ok (.iconst 0, 1) := by decide +kernel
theorem dX1_isFull_14 : decode cX1_isFull 14 = .ok (.ireturn, 1) := by decide +kernel
theorem dX1_isRay_0 : decode cX1_isRay 0 = .ok (.aload_n 0, 1) := by decide +kernel
theorem dX1_isRay_1 : decode cX1_isRay 1 = .ok (.getfield 15, 3) := by decide +kernel
theorem dX1_isRay_4 : decode cX1_isRay 4 = .ok (.iload_n 1, 1) := by decide +kernel
theorem dX1_isRay_5 : decode cX1_isRay 5 = .ok (.iaload, 1) := by decide +kernel
theorem dX1_isRay_6 : decode cX1_isRay 6 = .ok (.iconst (-1), 1) := by decide +kernel
theorem dX1_isRay_7 : decode cX1_isRay 7 = .ok (.if_icmp .eq 7, 3) := by decide +kernel
theorem dX1_isRay_10 : decode cX1_isRay 10 = .ok (.iconst 1, 1) := by decide +kernel
theorem dX1_isRay_11 : decode cX1_isRay 11 = .ok (.goto 4, 3) := by decide +kernel
theorem dX1_isRay_14 : decode cX1_isRay 14 = .ok (.iconst 0, 1) := by decide +kernel
theorem dX1_isRay_15 : decode cX1_isRay 15 = .ok (.ireturn, 1) := by decide +kernel
theorem dX1_appendRay_0 : decode cX1_appendRay 0 = .ok (.aload_n 0, 1) := by decide +kernel
theorem dX1_appendRay_1 : decode cX1_appendRay 1 = .ok (.getfield 9, 3) := by decide +kernel
theorem dX1_appendRay_4 : decode cX1_appendRay 4 = .ok (.istore_n 3, 1) := by decide +kernel
theorem dX1_appendRay_5 : decode cX1_appendRay 5 = .ok (.iload_n 3, 1) := by decide +kernel
theorem dX1_appendRay_6 : decode cX1_appendRay 6 = .ok (.bipush 40, 2) := by decide +kernel
theorem dX1_appendRay_8 : decode cX1_appendRay 8 = .ok (.if_icmp .lt 6, 3) := by decide +kernel
theorem dX1_appendRay_11 : decode cX1_appendRay 11 = .ok (.bipush (-3), 2) := by decide +kernel
theorem dX1_appendRay_13 : decode cX1_appendRay 13 = .ok (.ireturn, 1) := by decide +kernel
theorem dX1_appendRay_14 : decode cX1_appendRay 14 = .ok (.aload_n 0, 1) := by decide +kernel
theorem dX1_appendRay_15 : decode cX1_appendRay 15 = .ok (.getfield 15, 3) := by decide +kernel
theorem dX1_appendRay_18 : decode cX1_appendRay 18 = .ok (.iload_n 3, 1) := by decide +kernel
theorem dX1_appendRay_19 : decode cX1_appendRay 19 = .ok (.iload_n 2, 1) := by decide +kernel
theorem dX1_appendRay_20 : decode cX1_appendRay 20 = .ok (.iastore, 1) := by decide +kernel
theorem dX1_appendRay_21 : decode cX1_appendRay 21 = .ok (.aload_n 0, 1) := by decide +kernel
theorem dX1_appendRay_22 : decode cX1_appendRay 22 = .ok (.getfield 19, 3) := by decide +kernel
theorem dX1_appendRay_25 : decode cX1_appendRay 25 = .ok (.iload_n 3, 1) := by decide +kernel
theorem dX1_appendRay_26 : decode cX1_appendRay 26 = .ok (.iconst 1, 1) := by decide +kernel
theorem dX1_appendRay_27 : decode cX1_appendRay 27 = .ok (.iastore, 1) := by decide +kernel
theorem dX1_appendRay_28 : decode cX1_appendRay 28 = .ok (.iconst 0, 1) := by decide +kernel
theorem dX1_appendRay_29 : decode cX1_appendRay 29 = .ok (.istore 4, 2) := by decide +kernel
theorem dX1_appendRay_31 : decode cX1_appendRay 31 = .ok (.iload 4, 2) := by decide +kernel
theorem dX1_appendRay_33 : decode cX1_appendRay 33 = .ok (.aload_n 1, 1) := by decide +kernel
theorem dX1_appendRay_34 : decode cX1_appendRay 34 = .ok (.getfield 31, 3) := by decide +kernel
theorem dX1_appendRay_37 : decode cX1_appendRay 37 = .ok (.if_icmp .ge 33, 3) := by decide +kernel
theorem dX1_appendRay_40 : decode cX1_appendRay 40 = .ok (.aload_n 0, 1) := by decide +kernel
theorem dX1_appendRay_41 : decode cX1_appendRay 41 = .ok (.getfield 24, 3) := by decide +kernel
theorem dX1_appendRay_44 : decode cX1_appendRay 44 = .ok (.iload_n 3, 1) := by decide +kernel
theorem dX1_appendRay_45 : decode cX1_appendRay 45 = .ok (.aaload, 1) := by decide +kernel
theorem dX1_appendRay_46 : decode cX1_appendRay 46 = .ok (.iload 4, 2) := by decide +kernel
theorem dX1_appendRay_48 : decode cX1_appendRay 48 = .ok (.aload_n 1, 1) := by decide +kernel
theorem dX1_appendRay_49 : decode cX1_appendRay 49 = .ok (.iload 4, 2) := by decide +kernel
theorem dX1_appendRay_51 : decode cX1_appendRay 51 = .ok (.iload_n 2, 1) := by decide +kernel
theorem dX1_appendRay_52 : decode cX1_appendRay 52 = .ok (.invokevirtual 36, 3) := by decide +kernel
theorem dX1_appendRay_55 : decode cX1_appendRay 55 = .ok (.ifCond .eq 7, 3) := by decide +kernel
theorem dX1_appendRay_58 : decode cX1_appendRay 58 = .ok (.iconst 1, 1) := by decide +kernel
theorem dX1_appendRay_59 : decode cX1_appendRay 59 = .ok (.goto 4, 3) := by decide +kernel
theorem dX1_appendRay_62 : decode cX1_appendRay 62 = .ok (.iconst 0, 1) := by decide +kernel
theorem dX1_appendRay_63 : decode cX1_appendRay 63 = .ok (.iastore, 1) := by decide +kernel
theorem dX1_appendRay_64 : decode cX1_appendRay 64 = .ok (.iinc 4 1, 3) := by decide +kernel
theorem dX1_appendRay_67 : decode cX1_appendRay 67 = .ok (.goto (-36), 3) := by decide +kernel
theorem dX1_appendRay_70 : decode cX1_appendRay 70 = .ok (.aload_n 0, 1) := by decide +kernel
theorem dX1_appendRay_71 : decode cX1_appendRay 71 = .ok (.dup, 1) := by decide +kernel
theorem dX1_appendRay_72 : decode cX1_appendRay 72 = .ok (.getfield 9, 3) := by decide +kernel
theorem dX1_appendRay_75 : decode cX1_appendRay 75 = .ok (.iconst 1, 1) := by decide +kernel
theorem dX1_appendRay_76 : decode cX1_appendRay 76 = .ok (.iadd, 1) := by decide +kernel
theorem dX1_appendRay_77 : decode cX1_appendRay 77 = .ok (.putfield 9, 3) := by decide +kernel
theorem dX1_appendRay_80 : decode cX1_appendRay 80 = .ok (.iload_n 3, 1) := by decide +kernel
theorem dX1_appendRay_81 : decode cX1_appendRay 81 = .ok (.ireturn, 1) := by decide +kernel
theorem dX1_appendPriceCut_0 : decode cX1_appendPriceCut 0 = .ok (.aload_n 0, 1) := by decide +kernel
theorem dX1_appendPriceCut_1 : decode cX1_appendPriceCut 1 = .ok (.getfield 9, 3) := by decide +kernel
theorem dX1_appendPriceCut_4 : decode cX1_appendPriceCut 4 = .ok (.istore_n 3, 1) := by decide +kernel
theorem dX1_appendPriceCut_5 : decode cX1_appendPriceCut 5 = .ok (.iload_n 3, 1) := by decide +kernel
theorem dX1_appendPriceCut_6 : decode cX1_appendPriceCut 6 = .ok (.bipush 40, 2) := by decide +kernel
theorem dX1_appendPriceCut_8 : decode cX1_appendPriceCut 8 = .ok (.if_icmp .lt 6, 3) := by decide +kernel
theorem dX1_appendPriceCut_11 : decode cX1_appendPriceCut 11 = .ok (.bipush (-3), 2) := by decide +kernel
theorem dX1_appendPriceCut_13 : decode cX1_appendPriceCut 13 = .ok (.ireturn, 1) := by decide +kernel
theorem dX1_appendPriceCut_14 : decode cX1_appendPriceCut 14 = .ok (.aload_n 0, 1) := by decide +kernel
theorem dX1_appendPriceCut_15 : decode cX1_appendPriceCut 15 = .ok (.getfield 15, 3) := by decide +kernel
theorem dX1_appendPriceCut_18 : decode cX1_appendPriceCut 18 = .ok (.iload_n 3, 1) := by decide +kernel
theorem dX1_appendPriceCut_19 : decode cX1_appendPriceCut 19 = .ok (.iconst (-1), 1) := by decide +kernel
theorem dX1_appendPriceCut_20 : decode cX1_appendPriceCut 20 = .ok (.iastore, 1) := by decide +kernel
theorem dX1_appendPriceCut_21 : decode cX1_appendPriceCut 21 = .ok (.aload_n 0, 1) := by decide +kernel
theorem dX1_appendPriceCut_22 : decode cX1_appendPriceCut 22 = .ok (.getfield 19, 3) := by decide +kernel
theorem dX1_appendPriceCut_25 : decode cX1_appendPriceCut 25 = .ok (.iload_n 3, 1) := by decide +kernel
theorem dX1_appendPriceCut_26 : decode cX1_appendPriceCut 26 = .ok (.iconst 0, 1) := by decide +kernel
theorem dX1_appendPriceCut_27 : decode cX1_appendPriceCut 27 = .ok (.iastore, 1) := by decide +kernel
theorem dX1_appendPriceCut_28 : decode cX1_appendPriceCut 28 = .ok (.iconst 0, 1) := by decide +kernel
theorem dX1_appendPriceCut_29 : decode cX1_appendPriceCut 29 = .ok (.istore 4, 2) := by decide +kernel
theorem dX1_appendPriceCut_31 : decode cX1_appendPriceCut 31 = .ok (.iload 4, 2) := by decide +kernel
theorem dX1_appendPriceCut_33 : decode cX1_appendPriceCut 33 = .ok (.aload_n 1, 1) := by decide +kernel
theorem dX1_appendPriceCut_34 : decode cX1_appendPriceCut 34 = .ok (.getfield 40, 3) := by decide +kernel
theorem dX1_appendPriceCut_37 : decode cX1_appendPriceCut 37 = .ok (.if_icmp .ge 30, 3) := by decide +kernel
theorem dX1_appendPriceCut_40 : decode cX1_appendPriceCut 40 = .ok (.aload_n 0, 1) := by decide +kernel
theorem dX1_appendPriceCut_41 : decode cX1_appendPriceCut 41 = .ok (.getfield 19, 3) := by decide +kernel
theorem dX1_appendPriceCut_44 : decode cX1_appendPriceCut 44 = .ok (.iload_n 3, 1) := by decide +kernel
theorem dX1_appendPriceCut_45 : decode cX1_appendPriceCut 45 = .ok (.dup2, 1) := by decide +kernel
theorem dX1_appendPriceCut_46 : decode cX1_appendPriceCut 46 = .ok (.iaload, 1) := by decide +kernel
theorem dX1_appendPriceCut_47 : decode cX1_appendPriceCut 47 = .ok (.aload_n 1, 1) := by decide +kernel
theorem dX1_appendPriceCut_48 : decode cX1_appendPriceCut 48 = .ok (.getfield 43, 3) := by decide +kernel
theorem dX1_appendPriceCut_51 : decode cX1_appendPriceCut 51 = .ok (.iload 4, 2) := by decide +kernel
theorem dX1_appendPriceCut_53 : decode cX1_appendPriceCut 53 = .ok (.iaload, 1) := by decide +kernel
theorem dX1_appendPriceCut_54 : decode cX1_appendPriceCut 54 = .ok (.aload_n 2, 1) := by decide +kernel
theorem dX1_appendPriceCut_55 : decode cX1_appendPriceCut 55 = .ok (.iload 4, 2) := by decide +kernel
theorem dX1_appendPriceCut_57 : decode cX1_appendPriceCut 57 = .ok (.iaload, 1) := by decide +kernel
theorem dX1_appendPriceCut_58 : decode cX1_appendPriceCut 58 = .ok (.imul, 1) := by decide +kernel
theorem dX1_appendPriceCut_59 : decode cX1_appendPriceCut 59 = .ok (.iadd, 1) := by decide +kernel
theorem dX1_appendPriceCut_60 : decode cX1_appendPriceCut 60 = .ok (.iastore, 1) := by decide +kernel
theorem dX1_appendPriceCut_61 : decode cX1_appendPriceCut 61 = .ok (.iinc 4 1, 3) := by decide +kernel
theorem dX1_appendPriceCut_64 : decode cX1_appendPriceCut 64 = .ok (.goto (-33), 3) := by decide +kernel
theorem dX1_appendPriceCut_67 : decode cX1_appendPriceCut 67 = .ok (.iconst 0, 1) := by decide +kernel
theorem dX1_appendPriceCut_68 : decode cX1_appendPriceCut 68 = .ok (.istore 4, 2) := by decide +kernel
theorem dX1_appendPriceCut_70 : decode cX1_appendPriceCut 70 = .ok (.iload 4, 2) := by decide +kernel
theorem dX1_appendPriceCut_72 : decode cX1_appendPriceCut 72 = .ok (.aload_n 1, 1) := by decide +kernel
theorem dX1_appendPriceCut_73 : decode cX1_appendPriceCut 73 = .ok (.getfield 31, 3) := by decide +kernel
theorem dX1_appendPriceCut_76 : decode cX1_appendPriceCut 76 = .ok (.if_icmp .ge 25, 3) := by decide +kernel
theorem dX1_appendPriceCut_79 : decode cX1_appendPriceCut 79 = .ok (.aload_n 0, 1) := by decide +kernel
theorem dX1_appendPriceCut_80 : decode cX1_appendPriceCut 80 = .ok (.getfield 24, 3) := by decide +kernel
theorem dX1_appendPriceCut_83 : decode cX1_appendPriceCut 83 = .ok (.iload_n 3, 1) := by decide +kernel
theorem dX1_appendPriceCut_84 : decode cX1_appendPriceCut 84 = .ok (.aaload, 1) := by decide +kernel
theorem dX1_appendPriceCut_85 : decode cX1_appendPriceCut 85 = .ok (.iload 4, 2) := by decide +kernel
theorem dX1_appendPriceCut_87 : decode cX1_appendPriceCut 87 = .ok (.aload_n 1, 1) := by decide +kernel
theorem dX1_appendPriceCut_88 : decode cX1_appendPriceCut 88 = .ok (.iload 4, 2) := by decide +kernel
theorem dX1_appendPriceCut_90 : decode cX1_appendPriceCut 90 = .ok (.aload_n 2, 1) := by decide +kernel
theorem dX1_appendPriceCut_91 : decode cX1_appendPriceCut 91 = .ok (.invokestatic 46, 3) := by decide +kernel
theorem dX1_appendPriceCut_94 : decode cX1_appendPriceCut 94 = .ok (.iastore, 1) := by decide +kernel
theorem dX1_appendPriceCut_95 : decode cX1_appendPriceCut 95 = .ok (.iinc 4 1, 3) := by decide +kernel
theorem dX1_appendPriceCut_98 : decode cX1_appendPriceCut 98 = .ok (.goto (-28), 3) := by decide +kernel
theorem dX1_appendPriceCut_101 : decode cX1_appendPriceCut 101 = .ok (.aload_n 0, 1) := by decide +kernel
theorem dX1_appendPriceCut_102 : decode cX1_appendPriceCut 102 = .ok (.dup, 1) := by decide +kernel
theorem dX1_appendPriceCut_103 : decode cX1_appendPriceCut 103 = .ok (.getfield 9, 3) := by decide +kernel
theorem dX1_appendPriceCut_106 : decode cX1_appendPriceCut 106 = .ok (.iconst 1, 1) := by decide +kernel
theorem dX1_appendPriceCut_107 : decode cX1_appendPriceCut 107 = .ok (.iadd, 1) := by decide +kernel
theorem dX1_appendPriceCut_108 : decode cX1_appendPriceCut 108 = .ok (.putfield 9, 3) := by decide +kernel
theorem dX1_appendPriceCut_111 : decode cX1_appendPriceCut 111 = .ok (.iload_n 3, 1) := by decide +kernel
theorem dX1_appendPriceCut_112 : decode cX1_appendPriceCut 112 = .ok (.ireturn, 1) := by decide +kernel
theorem dX1_savedBy_0 : decode cX1_savedBy 0 = .ok (.iconst 0, 1) := by decide +kernel
theorem dX1_savedBy_1 : decode cX1_savedBy 1 = .ok (.istore_n 3, 1) := by decide +kernel
theorem dX1_savedBy_2 : decode cX1_savedBy 2 = .ok (.iconst 0, 1) := by decide +kernel
theorem dX1_savedBy_3 : decode cX1_savedBy 3 = .ok (.istore 4, 2) := by decide +kernel
theorem dX1_savedBy_5 : decode cX1_savedBy 5 = .ok (.iload 4, 2) := by decide +kernel
theorem dX1_savedBy_7 : decode cX1_savedBy 7 = .ok (.aload_n 0, 1) := by decide +kernel
theorem dX1_savedBy_8 : decode cX1_savedBy 8 = .ok (.getfield 40, 3) := by decide +kernel
theorem dX1_savedBy_11 : decode cX1_savedBy 11 = .ok (.if_icmp .ge 42, 3) := by decide +kernel
theorem dX1_savedBy_14 : decode cX1_savedBy 14 = .ok (.aload_n 2, 1) := by decide +kernel
theorem dX1_savedBy_15 : decode cX1_savedBy 15 = .ok (.iload 4, 2) := by decide +kernel
theorem dX1_savedBy_17 : decode cX1_savedBy 17 = .ok (.iaload, 1) := by decide +kernel
theorem dX1_savedBy_18 : decode cX1_savedBy 18 = .ok (.aload_n 0, 1) := by decide +kernel
theorem dX1_savedBy_19 : decode cX1_savedBy 19 = .ok (.getfield 50, 3) := by decide +kernel
theorem dX1_savedBy_22 : decode cX1_savedBy 22 = .ok (.iload_n 1, 1) := by decide +kernel
theorem dX1_savedBy_23 : decode cX1_savedBy 23 = .ok (.aaload, 1) := by decide +kernel
theorem dX1_savedBy_24 : decode cX1_savedBy 24 = .ok (.iload 4, 2) := by decide +kernel
theorem dX1_savedBy_26 : decode cX1_savedBy 26 = .ok (.iaload, 1) := by decide +kernel
theorem dX1_savedBy_27 : decode cX1_savedBy 27 = .ok (.isub, 1) := by decide +kernel
theorem dX1_savedBy_28 : decode cX1_savedBy 28 = .ok (.istore 5, 2) := by decide +kernel
theorem dX1_savedBy_30 : decode cX1_savedBy 30 = .ok (.iload_n 3, 1) := by decide +kernel
theorem dX1_savedBy_31 : decode cX1_savedBy 31 = .ok (.aload_n 0, 1) := by decide +kernel
theorem dX1_savedBy_32 : decode cX1_savedBy 32 = .ok (.getfield 43, 3) := by decide +kernel
theorem dX1_savedBy_35 : decode cX1_savedBy 35 = .ok (.iload 4, 2) := by decide +kernel
theorem dX1_savedBy_37 : decode cX1_savedBy 37 = .ok (.iaload, 1) := by decide +kernel
theorem dX1_savedBy_38 : decode cX1_savedBy 38 = .ok (.iconst 0, 1) := by decide +kernel
theorem dX1_savedBy_39 : decode cX1_savedBy 39 = .ok (.iload 5, 2) := by decide +kernel
theorem dX1_savedBy_41 : decode cX1_savedBy 41 = .ok (.invokestatic 53, 3) := by decide +kernel
theorem dX1_savedBy_44 : decode cX1_savedBy 44 = .ok (.imul, 1) := by decide +kernel
theorem dX1_savedBy_45 : decode cX1_savedBy 45 = .ok (.iadd, 1) := by decide +kernel
theorem dX1_savedBy_46 : decode cX1_savedBy 46 = .ok (.istore_n 3, 1) := by decide +kernel
theorem dX1_savedBy_47 : decode cX1_savedBy 47 = .ok (.iinc 4 1, 3) := by decide +kernel
theorem dX1_savedBy_50 : decode cX1_savedBy 50 = .ok (.goto (-45), 3) := by decide +kernel
theorem dX1_savedBy_53 : decode cX1_savedBy 53 = .ok (.iload_n 3, 1) := by decide +kernel
theorem dX1_savedBy_54 : decode cX1_savedBy 54 = .ok (.ireturn, 1) := by decide +kernel
theorem dX1_remove_0 : decode cX1_remove 0 = .ok (.iload_n 1, 1) := by decide +kernel
theorem dX1_remove_1 : decode cX1_remove 1 = .ok (.iconst 1, 1) := by decide +kernel
theorem dX1_remove_2 : decode cX1_remove 2 = .ok (.iadd, 1) := by decide +kernel
theorem dX1_remove_3 : decode cX1_remove 3 = .ok (.istore_n 2, 1) := by decide +kernel
theorem dX1_remove_4 : decode cX1_remove 4 = .ok (.iload_n 2, 1) := by decide +kernel
theorem dX1_remove_5 : decode cX1_remove 5 = .ok (.aload_n 0, 1) := by decide +kernel
theorem dX1_remove_6 : decode cX1_remove 6 = .ok (.getfield 9, 3) := by decide +kernel
theorem dX1_remove_9 : decode cX1_remove 9 = .ok (.if_icmp .ge 18, 3) := by decide +kernel
theorem dX1_remove_12 : decode cX1_remove 12 = .ok (.aload_n 0, 1) := by decide +kernel
theorem dX1_remove_13 : decode cX1_remove 13 = .ok (.aload_n 0, 1) := by decide +kernel
theorem dX1_remove_14 : decode cX1_remove 14 = .ok (.iload_n 2, 1) := by decide +kernel
theorem dX1_remove_15 : decode cX1_remove 15 = .ok (.iload_n 2, 1) := by decide +kernel
theorem dX1_remove_16 : decode cX1_remove 16 = .ok (.iconst 1, 1) := by decide +kernel
theorem dX1_remove_17 : decode cX1_remove 17 = .ok (.isub, 1) := by decide +kernel
theorem dX1_remove_18 : decode cX1_remove 18 = .ok (.invokevirtual 27, 3) := by decide +kernel
theorem dX1_remove_21 : decode cX1_remove 21 = .ok (.iinc 2 1, 3) := by decide +kernel
theorem dX1_remove_24 : decode cX1_remove 24 = .ok (.goto (-20), 3) := by decide +kernel
theorem dX1_remove_27 : decode cX1_remove 27 = .ok (.aload_n 0, 1) := by decide +kernel
theorem dX1_remove_28 : decode cX1_remove 28 = .ok (.dup, 1) := by decide +kernel
theorem dX1_remove_29 : decode cX1_remove 29 = .ok (.getfield 9, 3) := by decide +kernel
theorem dX1_remove_32 : decode cX1_remove 32 = .ok (.iconst 1, 1) := by decide +kernel
theorem dX1_remove_33 : decode cX1_remove 33 = .ok (.isub, 1) := by decide +kernel
theorem dX1_remove_34 : decode cX1_remove 34 = .ok (.putfield 9, 3) := by decide +kernel
theorem dX1_remove_37 : decode cX1_remove 37 = .ok (.return_, 1) := by decide +kernel
theorem dX1_weightOf_0 : decode cX1_weightOf 0 = .ok (.iconst 0, 1) := by decide +kernel
theorem dX1_weightOf_1 : decode cX1_weightOf 1 = .ok (.istore_n 3, 1) := by decide +kernel
theorem dX1_weightOf_2 : decode cX1_weightOf 2 = .ok (.iconst 0, 1) := by decide +kernel
theorem dX1_weightOf_3 : decode cX1_weightOf 3 = .ok (.istore 4, 2) := by decide +kernel
theorem dX1_weightOf_5 : decode cX1_weightOf 5 = .ok (.iload 4, 2) := by decide +kernel
theorem dX1_weightOf_7 : decode cX1_weightOf 7 = .ok (.bipush 7, 2) := by decide +kernel
theorem dX1_weightOf_9 : decode cX1_weightOf 9 = .ok (.if_icmp .ge 30, 3) := by decide +kernel
theorem dX1_weightOf_12 : decode cX1_weightOf 12 = .ok (.iload_n 2, 1) := by decide +kernel
theorem dX1_weightOf_13 : decode cX1_weightOf 13 = .ok (.iload 4, 2) := by decide +kernel
theorem dX1_weightOf_15 : decode cX1_weightOf 15 = .ok (.invokestatic 59, 3) := by decide +kernel
theorem dX1_weightOf_18 : decode cX1_weightOf 18 = .ok (.ifCond .eq 15, 3) := by decide +kernel
theorem dX1_weightOf_21 : decode cX1_weightOf 21 = .ok (.iload_n 3, 1) := by decide +kernel
theorem dX1_weightOf_22 : decode cX1_weightOf 22 = .ok (.aload_n 0, 1) := by decide +kernel
theorem dX1_weightOf_23 : decode cX1_weightOf 23 = .ok (.getfield 24, 3) := by decide +kernel
theorem dX1_weightOf_26 : decode cX1_weightOf 26 = .ok (.iload_n 1, 1) := by decide +kernel
theorem dX1_weightOf_27 : decode cX1_weightOf 27 = .ok (.aaload, 1) := by decide +kernel
theorem dX1_weightOf_28 : decode cX1_weightOf 28 = .ok (.iload 4, 2) := by decide +kernel
theorem dX1_weightOf_30 : decode cX1_weightOf 30 = .ok (.iaload, 1) := by decide +kernel
theorem dX1_weightOf_31 : decode cX1_weightOf 31 = .ok (.iadd, 1) := by decide +kernel
theorem dX1_weightOf_32 : decode cX1_weightOf 32 = .ok (.istore_n 3, 1) := by decide +kernel
theorem dX1_weightOf_33 : decode cX1_weightOf 33 = .ok (.iinc 4 1, 3) := by decide +kernel
theorem dX1_weightOf_36 : decode cX1_weightOf 36 = .ok (.goto (-31), 3) := by decide +kernel
theorem dX1_weightOf_39 : decode cX1_weightOf 39 = .ok (.iload_n 3, 1) := by decide +kernel
theorem dX1_weightOf_40 : decode cX1_weightOf 40 = .ok (.ireturn, 1) := by decide +kernel
theorem dX1_valueOf_0 : decode cX1_valueOf 0 = .ok (.aload_n 0, 1) := by decide +kernel
theorem dX1_valueOf_1 : decode cX1_valueOf 1 = .ok (.getfield 19, 3) := by decide +kernel
theorem dX1_valueOf_4 : decode cX1_valueOf 4 = .ok (.iload_n 1, 1) := by decide +kernel
theorem dX1_valueOf_5 : decode cX1_valueOf 5 = .ok (.iaload, 1) := by decide +kernel
theorem dX1_valueOf_6 : decode cX1_valueOf 6 = .ok (.aload_n 0, 1) := by decide +kernel
theorem dX1_valueOf_7 : decode cX1_valueOf 7 = .ok (.iload_n 1, 1) := by decide +kernel
theorem dX1_valueOf_8 : decode cX1_valueOf 8 = .ok (.iload_n 2, 1) := by decide +kernel
theorem dX1_valueOf_9 : decode cX1_valueOf 9 = .ok (.invokevirtual 62, 3) := by decide +kernel
theorem dX1_valueOf_12 : decode cX1_valueOf 12 = .ok (.isub, 1) := by decide +kernel
theorem dX1_valueOf_13 : decode cX1_valueOf 13 = .ok (.ireturn, 1) := by decide +kernel
theorem dX1_greatestValue_0 : decode cX1_greatestValue 0 = .ok (.iconst 0, 1) := by decide +kernel
theorem dX1_greatestValue_1 : decode cX1_greatestValue 1 = .ok (.istore_n 2, 1) := by decide +kernel
theorem dX1_greatestValue_2 : decode cX1_greatestValue 2 = .ok (.iconst 0, 1) := by decide +kernel
theorem dX1_greatestValue_3 : decode cX1_greatestValue 3 = .ok (.istore_n 3, 1) := by decide +kernel
theorem dX1_greatestValue_4 : decode cX1_greatestValue 4 = .ok (.iload_n 3, 1) := by decide +kernel
theorem dX1_greatestValue_5 : decode cX1_greatestValue 5 = .ok (.aload_n 0, 1) := by decide +kernel
theorem dX1_greatestValue_6 : decode cX1_greatestValue 6 = .ok (.getfield 9, 3) := by decide +kernel
theorem dX1_greatestValue_9 : decode cX1_greatestValue 9 = .ok (.if_icmp .ge 28, 3) := by decide +kernel
theorem dX1_greatestValue_12 : decode cX1_greatestValue 12 = .ok (.aload_n 0, 1) := by decide +kernel
theorem dX1_greatestValue_13 : decode cX1_greatestValue 13 = .ok (.iload_n 3, 1) := by decide +kernel
theorem dX1_greatestValue_14 : decode cX1_greatestValue 14 = .ok (.invokevirtual 65, 3) := by decide +kernel
theorem dX1_greatestValue_17 : decode cX1_greatestValue 17 = .ok (.ifCond .ne 14, 3) := by decide +kernel
theorem dX1_greatestValue_20 : decode cX1_greatestValue 20 = .ok (.iload_n 2, 1) := by decide +kernel
theorem dX1_greatestValue_21 : decode cX1_greatestValue 21 = .ok (.aload_n 0, 1) := by decide +kernel
theorem dX1_greatestValue_22 : decode cX1_greatestValue 22 = .ok (.iload_n 3, 1) := by decide +kernel
theorem dX1_greatestValue_23 : decode cX1_greatestValue 23 = .ok (.iload_n 1, 1) := by decide +kernel
theorem dX1_greatestValue_24 : decode cX1_greatestValue 24 = .ok (.invokevirtual 69, 3) := by decide +kernel
theorem dX1_greatestValue_27 : decode cX1_greatestValue 27 = .ok (.invokestatic 53, 3) := by decide +kernel
theorem dX1_greatestValue_30 : decode cX1_greatestValue 30 = .ok (.istore_n 2, 1) := by decide +kernel
theorem dX1_greatestValue_31 : decode cX1_greatestValue 31 = .ok (.iinc 3 1, 3) := by decide +kernel
theorem dX1_greatestValue_34 : decode cX1_greatestValue 34 = .ok (.goto (-30), 3) := by decide +kernel
theorem dX1_greatestValue_37 : decode cX1_greatestValue 37 = .ok (.iload_n 2, 1) := by decide +kernel
theorem dX1_greatestValue_38 : decode cX1_greatestValue 38 = .ok (.ireturn, 1) := by decide +kernel
theorem dX1_countRays_0 : decode cX1_countRays 0 = .ok (.iconst 0, 1) := by decide +kernel
theorem dX1_countRays_1 : decode cX1_countRays 1 = .ok (.istore_n 1, 1) := by decide +kernel
theorem dX1_countRays_2 : decode cX1_countRays 2 = .ok (.iconst 0, 1) := by decide +kernel
theorem dX1_countRays_3 : decode cX1_countRays 3 = .ok (.istore_n 2, 1) := by decide +kernel
theorem dX1_countRays_4 : decode cX1_countRays 4 = .ok (.iload_n 2, 1) := by decide +kernel
theorem dX1_countRays_5 : decode cX1_countRays 5 = .ok (.aload_n 0, 1) := by decide +kernel
theorem dX1_countRays_6 : decode cX1_countRays 6 = .ok (.getfield 9, 3) := by decide +kernel
theorem dX1_countRays_9 : decode cX1_countRays 9 = .ok (.if_icmp .ge 20, 3) := by decide +kernel
theorem dX1_countRays_12 : decode cX1_countRays 12 = .ok (.aload_n 0, 1) := by decide +kernel
theorem dX1_countRays_13 : decode cX1_countRays 13 = .ok (.iload_n 2, 1) := by decide +kernel
theorem dX1_countRays_14 : decode cX1_countRays 14 = .ok (.invokevirtual 65, 3) := by decide +kernel
theorem dX1_countRays_17 : decode cX1_countRays 17 = .ok (.ifCond .eq 6, 3) := by decide +kernel
theorem dX1_countRays_20 : decode cX1_countRays 20 = .ok (.iinc 1 1, 3) := by decide +kernel
theorem dX1_countRays_23 : decode cX1_countRays 23 = .ok (.iinc 2 1, 3) := by decide +kernel
theorem dX1_countRays_26 : decode cX1_countRays 26 = .ok (.goto (-22), 3) := by decide +kernel
theorem dX1_countRays_29 : decode cX1_countRays 29 = .ok (.iload_n 1, 1) := by decide +kernel
theorem dX1_countRays_30 : decode cX1_countRays 30 = .ok (.ireturn, 1) := by decide +kernel
theorem dX1_countMissedRays_0 : decode cX1_countMissedRays 0 = .ok (.iconst 0, 1) := by decide +kernel
theorem dX1_countMissedRays_1 : decode cX1_countMissedRays 1 = .ok (.istore_n 2, 1) := by decide +kernel
theorem dX1_countMissedRays_2 : decode cX1_countMissedRays 2 = .ok (.iconst 0, 1) := by decide +kernel
theorem dX1_countMissedRays_3 : decode cX1_countMissedRays 3 = .ok (.istore_n 3, 1) := by decide +kernel
theorem dX1_countMissedRays_4 : decode cX1_countMissedRays 4 = .ok (.iload_n 3, 1) := by decide +kernel
theorem dX1_countMissedRays_5 : decode cX1_countMissedRays 5 = .ok (.aload_n 0, 1) := by decide +kernel
theorem dX1_countMissedRays_6 : decode cX1_countMissedRays 6 = .ok (.getfield 9, 3) := by decide +kernel
theorem dX1_countMissedRays_9 : decode cX1_countMissedRays 9 = .ok (.if_icmp .ge 29, 3) := by decide +kernel
theorem dX1_countMissedRays_12 : decode cX1_countMissedRays 12 = .ok (.aload_n 0, 1) := by decide +kernel
theorem dX1_countMissedRays_13 : decode cX1_countMissedRays 13 = .ok (.iload_n 3, 1) := by decide +kernel
theorem dX1_countMissedRays_14 : decode cX1_countMissedRays 14 = .ok (.invokevirtual 65, 3) := by decide +kernel
theorem dX1_countMissedRays_17 : decode cX1_countMissedRays 17 = .ok (.ifCond .eq 15, 3) := by decide +kernel
theorem dX1_countMissedRays_20 : decode cX1_countMissedRays 20 = .ok (.aload_n 0, 1) := by decide +kernel
theorem dX1_countMissedRays_21 : decode cX1_countMissedRays 21 = .ok (.iload_n 3, 1) := by decide +kernel
theorem dX1_countMissedRays_22 : decode cX1_countMissedRays 22 = .ok (.iload_n 1, 1) := by decide +kernel
theorem dX1_countMissedRays_23 : decode cX1_countMissedRays 23 = .ok (.invokevirtual 62, 3) := by decide +kernel
theorem dX1_countMissedRays_26 : decode cX1_countMissedRays 26 = .ok (.ifCond .ne 6, 3) := by decide +kernel
theorem dX1_countMissedRays_29 : decode cX1_countMissedRays 29 = .ok (.iinc 2 1, 3) := by decide +kernel
theorem dX1_countMissedRays_32 : decode cX1_countMissedRays 32 = .ok (.iinc 3 1, 3) := by decide +kernel
theorem dX1_countMissedRays_35 : decode cX1_countMissedRays 35 = .ok (.goto (-31), 3) := by decide +kernel
theorem dX1_countMissedRays_38 : decode cX1_countMissedRays 38 = .ok (.iload_n 2, 1) := by decide +kernel
theorem dX1_countMissedRays_39 : decode cX1_countMissedRays 39 = .ok (.ireturn, 1) := by decide +kernel
theorem dX1_isLoose_0 : decode cX1_isLoose 0 = .ok (.aload_n 0, 1) := by decide +kernel
theorem dX1_isLoose_1 : decode cX1_isLoose 1 = .ok (.iload_n 1, 1) := by decide +kernel
theorem dX1_isLoose_2 : decode cX1_isLoose 2 = .ok (.invokevirtual 65, 3) := by decide +kernel
theorem dX1_isLoose_5 : decode cX1_isLoose 5 = .ok (.ifCond .eq 19, 3) := by decide +kernel
theorem dX1_isLoose_8 : decode cX1_isLoose 8 = .ok (.aload_n 0, 1) := by decide +kernel
theorem dX1_isLoose_9 : decode cX1_isLoose 9 = .ok (.iload_n 1, 1) := by decide +kernel
theorem dX1_isLoose_10 : decode cX1_isLoose 10 = .ok (.iload_n 2, 1) := by decide +kernel
theorem dX1_isLoose_11 : decode cX1_isLoose 11 = .ok (.invokevirtual 62, 3) := by decide +kernel
theorem dX1_isLoose_14 : decode cX1_isLoose 14 = .ok (.iconst 1, 1) := by decide +kernel
theorem dX1_isLoose_15 : decode cX1_isLoose 15 = .ok (.if_icmp .le 7, 3) := by decide +kernel
theorem dX1_isLoose_18 : decode cX1_isLoose 18 = .ok (.iconst 1, 1) := by decide +kernel
theorem dX1_isLoose_19 : decode cX1_isLoose 19 = .ok (.goto 4, 3) := by decide +kernel
theorem dX1_isLoose_22 : decode cX1_isLoose 22 = .ok (.iconst 0, 1) := by decide +kernel
theorem dX1_isLoose_23 : decode cX1_isLoose 23 = .ok (.ireturn, 1) := by decide +kernel
theorem dX1_isLoose_24 : decode cX1_isLoose 24 = .ok (.aload_n 0, 1) := by decide +kernel
theorem dX1_isLoose_25 : decode cX1_isLoose 25 = .ok (.iload_n 1, 1) := by decide +kernel
theorem dX1_isLoose_26 : decode cX1_isLoose 26 = .ok (.iload_n 2, 1) := by decide +kernel
theorem dX1_isLoose_27 : decode cX1_isLoose 27 = .ok (.invokevirtual 69, 3) := by decide +kernel
theorem dX1_isLoose_30 : decode cX1_isLoose 30 = .ok (.iload_n 3, 1) := by decide +kernel
theorem dX1_isLoose_31 : decode cX1_isLoose 31 = .ok (.if_icmp .ge 7, 3) := by decide +kernel
theorem dX1_isLoose_34 : decode cX1_isLoose 34 = .ok (.iconst 1, 1) := by decide +kernel
theorem dX1_isLoose_35 : decode cX1_isLoose 35 = .ok (.goto 4, 3) := by decide +kernel
theorem dX1_isLoose_38 : decode cX1_isLoose 38 = .ok (.iconst 0, 1) := by decide +kernel
theorem dX1_isLoose_39 : decode cX1_isLoose 39 = .ok (.ireturn, 1) := by decide +kernel
theorem dX1_countLoose_0 : decode cX1_countLoose 0 = .ok (.aload_n 0, 1) := by decide +kernel
theorem dX1_countLoose_1 : decode cX1_countLoose 1 = .ok (.iload_n 1, 1) := by decide +kernel
theorem dX1_countLoose_2 : decode cX1_countLoose 2 = .ok (.invokevirtual 72, 3) := by decide +kernel
theorem dX1_countLoose_5 : decode cX1_countLoose 5 = .ok (.istore_n 2, 1) := by decide +kernel
theorem dX1_countLoose_6 : decode cX1_countLoose 6 = .ok (.iconst 0, 1) := by decide +kernel
theorem dX1_countLoose_7 : decode cX1_countLoose 7 = .ok (.istore_n 3, 1) := by decide +kernel
theorem dX1_countLoose_8 : decode cX1_countLoose 8 = .ok (.iconst 0, 1) := by decide +kernel
theorem dX1_countLoose_9 : decode cX1_countLoose 9 = .ok (.istore 4, 2) := by decide +kernel
theorem dX1_countLoose_11 : decode cX1_countLoose 11 = .ok (.iload 4, 2) := by decide +kernel
theorem dX1_countLoose_13 : decode cX1_countLoose 13 = .ok (.aload_n 0, 1) := by decide +kernel
theorem dX1_countLoose_14 : decode cX1_countLoose 14 = .ok (.getfield 9, 3) := by decide +kernel
theorem dX1_countLoose_17 : decode cX1_countLoose 17 = .ok (.if_icmp .ge 23, 3) := by decide +kernel
theorem dX1_countLoose_20 : decode cX1_countLoose 20 = .ok (.aload_n 0, 1) := by decide +kernel
theorem dX1_countLoose_21 : decode cX1_countLoose 21 = .ok (.iload 4, 2) := by decide +kernel
theorem dX1_countLoose_23 : decode cX1_countLoose 23 = .ok (.iload_n 1, 1) := by decide +kernel
theorem dX1_countLoose_24 : decode cX1_countLoose 24 = .ok (.iload_n 2, 1) := by decide +kernel
theorem dX1_countLoose_25 : decode cX1_countLoose 25 = .ok (.invokevirtual 76, 3) := by decide +kernel
theorem dX1_countLoose_28 : decode cX1_countLoose 28 = .ok (.ifCond .eq 6, 3) := by decide +kernel
theorem dX1_countLoose_31 : decode cX1_countLoose 31 = .ok (.iinc 3 1, 3) := by decide +kernel
theorem dX1_countLoose_34 : decode cX1_countLoose 34 = .ok (.iinc 4 1, 3) := by decide +kernel
theorem dX1_countLoose_37 : decode cX1_countLoose 37 = .ok (.goto (-26), 3) := by decide +kernel
theorem dX1_countLoose_40 : decode cX1_countLoose 40 = .ok (.iload_n 3, 1) := by decide +kernel
theorem dX1_countLoose_41 : decode cX1_countLoose 41 = .ok (.ireturn, 1) := by decide +kernel
theorem dX1_removeLoose_0 : decode cX1_removeLoose 0 = .ok (.aload_n 0, 1) := by decide +kernel
theorem dX1_removeLoose_1 : decode cX1_removeLoose 1 = .ok (.iload_n 1, 1) := by decide +kernel
theorem dX1_removeLoose_2 : decode cX1_removeLoose 2 = .ok (.invokevirtual 72, 3) := by decide +kernel
theorem dX1_removeLoose_5 : decode cX1_removeLoose 5 = .ok (.istore_n 2, 1) := by decide +kernel
theorem dX1_removeLoose_6 : decode cX1_removeLoose 6 = .ok (.iconst 0, 1) := by decide +kernel
theorem dX1_removeLoose_7 : decode cX1_removeLoose 7 = .ok (.istore_n 3, 1) := by decide +kernel
theorem dX1_removeLoose_8 : decode cX1_removeLoose 8 = .ok (.iconst 0, 1) := by decide +kernel
theorem dX1_removeLoose_9 : decode cX1_removeLoose 9 = .ok (.istore 4, 2) := by decide +kernel
theorem dX1_removeLoose_11 : decode cX1_removeLoose 11 = .ok (.iload 4, 2) := by decide +kernel
theorem dX1_removeLoose_13 : decode cX1_removeLoose 13 = .ok (.aload_n 0, 1) := by decide +kernel
theorem dX1_removeLoose_14 : decode cX1_removeLoose 14 = .ok (.getfield 9, 3) := by decide +kernel
theorem dX1_removeLoose_17 : decode cX1_removeLoose 17 = .ok (.if_icmp .ge 31, 3) := by decide +kernel
theorem dX1_removeLoose_20 : decode cX1_removeLoose 20 = .ok (.aload_n 0, 1) := by decide +kernel
theorem dX1_removeLoose_21 : decode cX1_removeLoose 21 = .ok (.iload 4, 2) := by decide +kernel
theorem dX1_removeLoose_23 : decode cX1_removeLoose 23 = .ok (.iload_n 1, 1) := by decide +kernel
theorem dX1_removeLoose_24 : decode cX1_removeLoose 24 = .ok (.iload_n 2, 1) := by decide +kernel
theorem dX1_removeLoose_25 : decode cX1_removeLoose 25 = .ok (.invokevirtual 76, 3) := by decide +kernel
theorem dX1_removeLoose_28 : decode cX1_removeLoose 28 = .ok (.ifCond .ne 14, 3) := by decide +kernel
theorem dX1_removeLoose_31 : decode cX1_removeLoose 31 = .ok (.aload_n 0, 1) := by decide +kernel
theorem dX1_removeLoose_32 : decode cX1_removeLoose 32 = .ok (.aload_n 0, 1) := by decide +kernel
theorem dX1_removeLoose_33 : decode cX1_removeLoose 33 = .ok (.iload 4, 2) := by decide +kernel
theorem dX1_removeLoose_35 : decode cX1_removeLoose 35 = .ok (.iload_n 3, 1) := by decide +kernel
theorem dX1_removeLoose_36 : decode cX1_removeLoose 36 = .ok (.invokevirtual 27, 3) := by decide +kernel
theorem dX1_removeLoose_39 : decode cX1_removeLoose 39 = .ok (.iinc 3 1, 3) := by decide +kernel
theorem dX1_removeLoose_42 : decode cX1_removeLoose 42 = .ok (.iinc 4 1, 3) := by decide +kernel
theorem dX1_removeLoose_45 : decode cX1_removeLoose 45 = .ok (.goto (-34), 3) := by decide +kernel
theorem dX1_removeLoose_48 : decode cX1_removeLoose 48 = .ok (.aload_n 0, 1) := by decide +kernel
theorem dX1_removeLoose_49 : decode cX1_removeLoose 49 = .ok (.iload_n 3, 1) := by decide +kernel
theorem dX1_removeLoose_50 : decode cX1_removeLoose 50 = .ok (.putfield 9, 3) := by decide +kernel
theorem dX1_removeLoose_53 : decode cX1_removeLoose 53 = .ok (.return_, 1) := by decide +kernel
theorem dX2_init_0 : decode cX2_init 0 = .ok (.aload_n 0, 1) := by decide +kernel
theorem dX2_init_1 : decode cX2_init 1 = .ok (.invokespecial 3, 3) := by decide +kernel
theorem dX2_init_4 : decode cX2_init 4 = .ok (.aload_n 0, 1) := by decide +kernel
theorem dX2_init_5 : decode cX2_init 5 = .ok (.iconst 4, 1) := by decide +kernel
theorem dX2_init_6 : decode cX2_init 6 = .ok (.anewarray 9, 3) := by decide +kernel
theorem dX2_init_9 : decode cX2_init 9 = .ok (.putfield 11, 3) := by decide +kernel
theorem dX2_init_12 : decode cX2_init 12 = .ok (.iconst 0, 1) := by decide +kernel
theorem dX2_init_13 : decode cX2_init 13 = .ok (.istore_n 1, 1) := by decide +kernel
theorem dX2_init_14 : decode cX2_init 14 = .ok (.iload_n 1, 1) := by decide +kernel
theorem dX2_init_15 : decode cX2_init 15 = .ok (.iconst 4, 1) := by decide +kernel
theorem dX2_init_16 : decode cX2_init 16 = .ok (.if_icmp .ge 22, 3) := by decide +kernel
theorem dX2_init_19 : decode cX2_init 19 = .ok (.aload_n 0, 1) := by decide +kernel
theorem dX2_init_20 : decode cX2_init 20 = .ok (.getfield 11, 3) := by decide +kernel
theorem dX2_init_23 : decode cX2_init 23 = .ok (.iload_n 1, 1) := by decide +kernel
theorem dX2_init_24 : decode cX2_init 24 = .ok (.new 9, 3) := by decide +kernel
theorem dX2_init_27 : decode cX2_init 27 = .ok (.dup, 1) := by decide +kernel
theorem dX2_init_28 : decode cX2_init 28 = .ok (.invokespecial 17, 3) := by decide +kernel
theorem dX2_init_31 : decode cX2_init 31 = .ok (.aastore, 1) := by decide +kernel
theorem dX2_init_32 : decode cX2_init 32 = .ok (.iinc 1 1, 3) := by decide +kernel
theorem dX2_init_35 : decode cX2_init 35 = .ok (.goto (-21), 3) := by decide +kernel
theorem dX2_init_38 : decode cX2_init 38 = .ok (.aload_n 0, 1) := by decide +kernel
theorem dX2_init_39 : decode cX2_init 39 = .ok (.iconst 0, 1) := by decide +kernel
theorem dX2_init_40 : decode cX2_init 40 = .ok (.putfield 18, 3) := by decide +kernel
theorem dX2_init_43 : decode cX2_init 43 = .ok (.return_, 1) := by decide +kernel
theorem dX2_record_0 : decode cX2_record 0 = .ok (.aload_n 0, 1) := by decide +kernel
theorem dX2_record_1 : decode cX2_record 1 = .ok (.getfield 18, 3) := by decide +kernel
theorem dX2_record_4 : decode cX2_record 4 = .ok (.iconst 4, 1) := by decide +kernel
theorem dX2_record_5 : decode cX2_record 5 = .ok (.if_icmp .lt 12, 3) := by decide +kernel
theorem dX2_record_8 : decode cX2_record 8 = .ok (.aload_n 0, 1) := by decide +kernel
theorem dX2_record_9 : decode cX2_record 9 = .ok (.invokevirtual 22, 3) := by decide +kernel
theorem dX2_record_12 : decode cX2_record 12 = .ok (.aload_n 0, 1) := by decide +kernel
theorem dX2_record_13 : decode cX2_record 13 = .ok (.iconst 3, 1) := by decide +kernel
theorem dX2_record_14 : decode cX2_record 14 = .ok (.putfield 18, 3) := by decide +kernel
theorem dX2_record_17 : decode cX2_record 17 = .ok (.aload_n 0, 1) := by decide +kernel
theorem dX2_record_18 : decode cX2_record 18 = .ok (.getfield 11, 3) := by decide +kernel
theorem dX2_record_21 : decode cX2_record 21 = .ok (.aload_n 0, 1) := by decide +kernel
theorem dX2_record_22 : decode cX2_record 22 = .ok (.getfield 18, 3) := by decide +kernel
theorem dX2_record_25 : decode cX2_record 25 = .ok (.aaload, 1) := by decide +kernel
theorem dX2_record_26 : decode cX2_record 26 = .ok (.aload_n 1, 1) := by decide +kernel
theorem dX2_record_27 : decode cX2_record 27 = .ok (.invokevirtual 25, 3) := by decide +kernel
theorem dX2_record_30 : decode cX2_record 30 = .ok (.aload_n 0, 1) := by decide +kernel
theorem dX2_record_31 : decode cX2_record 31 = .ok (.dup, 1) := by decide +kernel
theorem dX2_record_32 : decode cX2_record 32 = .ok (.getfield 18, 3) := by decide +kernel
theorem dX2_record_35 : decode cX2_record 35 = .ok (.iconst 1, 1) := by decide +kernel
theorem dX2_record_36 : decode cX2_record 36 = .ok (.iadd, 1) := by decide +kernel
theorem dX2_record_37 : decode cX2_record 37 = .ok (.putfield 18, 3) := by decide +kernel
theorem dX2_record_40 : decode cX2_record 40 = .ok (.return_, 1) := by decide +kernel
theorem dX2_moveOldestToEnd_0 : decode cX2_moveOldestToEnd 0 = .ok (.aload_n 0, 1) := by decide +kernel
theorem dX2_moveOldestToEnd_1 : decode cX2_moveOldestToEnd 1 = .ok (.getfield 11, 3) := by decide +kernel
theorem dX2_moveOldestToEnd_4 : decode cX2_moveOldestToEnd 4 = .ok (.iconst 0, 1) := by decide +kernel
theorem dX2_moveOldestToEnd_5 : decode cX2_moveOldestToEnd 5 = .ok (.aaload, 1) := by decide +kernel
theorem dX2_moveOldestToEnd_6 : decode cX2_moveOldestToEnd 6 = .ok (.astore_n 1, 1) := by decide +kernel
theorem dX2_moveOldestToEnd_7 : decode cX2_moveOldestToEnd 7 = .ok (.iconst 1, 1) := by decide +kernel
theorem dX2_moveOldestToEnd_8 : decode cX2_moveOldestToEnd 8 = .ok (.istore_n 2, 1) := by decide +kernel
theorem dX2_moveOldestToEnd_9 : decode cX2_moveOldestToEnd 9 = .ok (.iload_n 2, 1) := by decide +kernel
theorem dX2_moveOldestToEnd_10 : decode cX2_moveOldestToEnd 10 = .ok (.iconst 4, 1) := by decide +kernel
theorem dX2_moveOldestToEnd_11 : decode cX2_moveOldestToEnd 11 = .ok (.if_icmp .ge 23, 3) := by decide +kernel
theorem dX2_moveOldestToEnd_14 : decode cX2_moveOldestToEnd 14 = .ok (.aload_n 0, 1) := by decide +kernel
theorem dX2_moveOldestToEnd_15 : decode cX2_moveOldestToEnd 15 = .ok (.getfield 11, 3) := by decide +kernel
theorem dX2_moveOldestToEnd_18 : decode cX2_moveOldestToEnd 18 = .ok (.iload_n 2, 1) := by decide +kernel
theorem dX2_moveOldestToEnd_19 : decode cX2_moveOldestToEnd 19 = .ok (.iconst 1, 1) := by decide +kernel
theorem dX2_moveOldestToEnd_20 : decode cX2_moveOldestToEnd 20 = .ok (.isub, 1) := by decide +kernel
theorem dX2_moveOldestToEnd_21 : decode cX2_moveOldestToEnd 21 = .ok (.aload_n 0, 1) := by decide +kernel
theorem dX2_moveOldestToEnd_22 : decode cX2_moveOldestToEnd 22 = .ok (.getfield 11, 3) := by decide +kernel
theorem dX2_moveOldestToEnd_25 : decode cX2_moveOldestToEnd 25 = .ok (.iload_n 2, 1) := by decide +kernel
theorem dX2_moveOldestToEnd_26 : decode cX2_moveOldestToEnd 26 = .ok (.aaload, 1) := by decide +kernel
theorem dX2_moveOldestToEnd_27 : decode cX2_moveOldestToEnd 27 = .ok (.aastore, 1) := by decide +kernel
theorem dX2_moveOldestToEnd_28 : decode cX2_moveOldestToEnd 28 = .ok (.iinc 2 1, 3) := by decide +kernel
theorem dX2_moveOldestToEnd_31 : decode cX2_moveOldestToEnd 31 = .ok (.goto (-22), 3) := by decide +kernel
theorem dX2_moveOldestToEnd_34 : decode cX2_moveOldestToEnd 34 = .ok (.aload_n 0, 1) := by decide +kernel
theorem dX2_moveOldestToEnd_35 : decode cX2_moveOldestToEnd 35 = .ok (.getfield 11, 3) := by decide +kernel
theorem dX2_moveOldestToEnd_38 : decode cX2_moveOldestToEnd 38 = .ok (.iconst 3, 1) := by decide +kernel
theorem dX2_moveOldestToEnd_39 : decode cX2_moveOldestToEnd 39 = .ok (.aload_n 1, 1) := by decide +kernel
theorem dX2_moveOldestToEnd_40 : decode cX2_moveOldestToEnd 40 = .ok (.aastore, 1) := by decide +kernel
theorem dX2_moveOldestToEnd_41 : decode cX2_moveOldestToEnd 41 = .ok (.return_, 1) := by decide +kernel
theorem dX2_takeLatest_0 : decode cX2_takeLatest 0 = .ok (.aload_n 0, 1) := by decide +kernel
theorem dX2_takeLatest_1 : decode cX2_takeLatest 1 = .ok (.getfield 18, 3) := by decide +kernel
theorem dX2_takeLatest_4 : decode cX2_takeLatest 4 = .ok (.ifCond .le 26, 3) := by decide +kernel
theorem dX2_takeLatest_7 : decode cX2_takeLatest 7 = .ok (.aload_n 0, 1) := by decide +kernel
theorem dX2_takeLatest_8 : decode cX2_takeLatest 8 = .ok (.dup, 1) := by decide +kernel
theorem dX2_takeLatest_9 : decode cX2_takeLatest 9 = .ok (.getfield 18, 3) := by decide +kernel
theorem dX2_takeLatest_12 : decode cX2_takeLatest 12 = .ok (.iconst 1, 1) := by decide +kernel
theorem dX2_takeLatest_13 : decode cX2_takeLatest 13 = .ok (.isub, 1) := by decide +kernel
theorem dX2_takeLatest_14 : decode cX2_takeLatest 14 = .ok (.putfield 18, 3) := by decide +kernel
theorem dX2_takeLatest_17 : decode cX2_takeLatest 17 = .ok (.aload_n 1, 1) := by decide +kernel
theorem dX2_takeLatest_18 : decode cX2_takeLatest 18 = .ok (.aload_n 0, 1) := by decide +kernel
theorem dX2_takeLatest_19 : decode cX2_takeLatest 19 = .ok (.getfield 11, 3) := by decide +kernel
theorem dX2_takeLatest_22 : decode cX2_takeLatest 22 = .ok (.aload_n 0, 1) := by decide +kernel
theorem dX2_takeLatest_23 : decode cX2_takeLatest 23 = .ok (.getfield 18, 3) := by decide +kernel
theorem dX2_takeLatest_26 : decode cX2_takeLatest 26 = .ok (.aaload, 1) := by decide +kernel
theorem dX2_takeLatest_27 : decode cX2_takeLatest 27 = .ok (.invokevirtual 25, 3) := by decide +kernel
theorem dX2_takeLatest_30 : decode cX2_takeLatest 30 = .ok (.return_, 1) := by decide +kernel
