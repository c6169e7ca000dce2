theorem dX3_init_0 : decode cX3_init 0 = .ok (.aload_n 0, 1) := by decide +kernel
theorem dX3_init_1 : decode cX3_init 1 = .ok (.invokespecial 3, 3) := by decide +kernel
theorem dX3_init_4 : decode cX3_init 4 = .ok (.aload_n 0, 1) := by decide +kernel
theorem dX3_init_5 : decode cX3_init 5 = .ok (.iconst 0, 1) := by decide +kernel
theorem dX3_init_6 : decode cX3_init 6 = .ok (.putfield 9, 3) := by decide +kernel
theorem dX3_init_9 : decode cX3_init 9 = .ok (.aload_n 0, 1) := by decide +kernel
theorem dX3_init_10 : decode cX3_init 10 = .ok (.iconst 0, 1) := by decide +kernel
theorem dX3_init_11 : decode cX3_init 11 = .ok (.putfield 15, 3) := by decide +kernel
theorem dX3_init_14 : decode cX3_init 14 = .ok (.aload_n 0, 1) := by decide +kernel
theorem dX3_init_15 : decode cX3_init 15 = .ok (.bipush 7, 2) := by decide +kernel
theorem dX3_init_17 : decode cX3_init 17 = .ok (.putfield 18, 3) := by decide +kernel
theorem dX3_init_20 : decode cX3_init 20 = .ok (.aload_n 0, 1) := by decide +kernel
theorem dX3_init_21 : decode cX3_init 21 = .ok (.bipush 7, 2) := by decide +kernel
theorem dX3_init_23 : decode cX3_init 23 = .ok (.newarray .int, 2) := by decide +kernel
theorem dX3_init_25 : decode cX3_init 25 = .ok (.putfield 21, 3) := by decide +kernel
theorem dX3_init_28 : decode cX3_init 28 = .ok (.aload_n 0, 1) := by decide +kernel
theorem dX3_init_29 : decode cX3_init 29 = .ok (.bipush 8, 2) := by decide +kernel
theorem dX3_init_31 : decode cX3_init 31 = .ok (.newarray .int, 2) := by decide +kernel
theorem dX3_init_33 : decode cX3_init 33 = .ok (.putfield 25, 3) := by decide +kernel
theorem dX3_init_36 : decode cX3_init 36 = .ok (.aload_n 0, 1) := by decide +kernel
theorem dX3_init_37 : decode cX3_init 37 = .ok (.bipush 7, 2) := by decide +kernel
theorem dX3_init_39 : decode cX3_init 39 = .ok (.bipush 8, 2) := by decide +kernel
theorem dX3_init_41 : decode cX3_init 41 = .ok (.multianewarray 28 2, 4) := by decide +kernel
theorem dX3_init_45 : decode cX3_init 45 = .ok (.putfield 30, 3) := by decide +kernel
theorem dX3_init_48 : decode cX3_init 48 = .ok (.aload_n 0, 1) := by decide +kernel
theorem dX3_init_49 : decode cX3_init 49 = .ok (.bipush 7, 2) := by decide +kernel
theorem dX3_init_51 : decode cX3_init 51 = .ok (.newarray .int, 2) := by decide +kernel
theorem dX3_init_53 : decode cX3_init 53 = .ok (.putfield 33, 3) := by decide +kernel
theorem dX3_init_56 : decode cX3_init 56 = .ok (.return_, 1) := by decide +kernel
theorem dX3_copyFrom_0 : decode cX3_copyFrom 0 = .ok (.aload_n 0, 1) := by decide +kernel
theorem dX3_copyFrom_1 : decode cX3_copyFrom 1 = .ok (.aload_n 1, 1) := by decide +kernel
theorem dX3_copyFrom_2 : decode cX3_copyFrom 2 = .ok (.getfield 9, 3) := by decide +kernel
theorem dX3_copyFrom_5 : decode cX3_copyFrom 5 = .ok (.putfield 9, 3) := by decide +kernel
theorem dX3_copyFrom_8 : decode cX3_copyFrom 8 = .ok (.aload_n 0, 1) := by decide +kernel
theorem dX3_copyFrom_9 : decode cX3_copyFrom 9 = .ok (.aload_n 1, 1) := by decide +kernel
theorem dX3_copyFrom_10 : decode cX3_copyFrom 10 = .ok (.getfield 15, 3) := by decide +kernel
theorem dX3_copyFrom_13 : decode cX3_copyFrom 13 = .ok (.putfield 15, 3) := by decide +kernel
theorem dX3_copyFrom_16 : decode cX3_copyFrom 16 = .ok (.aload_n 0, 1) := by decide +kernel
theorem dX3_copyFrom_17 : decode cX3_copyFrom 17 = .ok (.aload_n 1, 1) := by decide +kernel
theorem dX3_copyFrom_18 : decode cX3_copyFrom 18 = .ok (.getfield 18, 3) := by decide +kernel
theorem dX3_copyFrom_21 : decode cX3_copyFrom 21 = .ok (.putfield 18, 3) := by decide +kernel
theorem dX3_copyFrom_24 : decode cX3_copyFrom 24 = .ok (.iconst 0, 1) := by decide +kernel
theorem dX3_copyFrom_25 : decode cX3_copyFrom 25 = .ok (.istore_n 2, 1) := by decide +kernel
theorem dX3_copyFrom_26 : decode cX3_copyFrom 26 = .ok (.iload_n 2, 1) := by decide +kernel
theorem dX3_copyFrom_27 : decode cX3_copyFrom 27 = .ok (.bipush 7, 2) := by decide +kernel
theorem dX3_copyFrom_29 : decode cX3_copyFrom 29 = .ok (.if_icmp .ge 63, 3) := by decide +kernel
theorem dX3_copyFrom_32 : decode cX3_copyFrom 32 = .ok (.aload_n 0, 1) := by decide +kernel
theorem dX3_copyFrom_33 : decode cX3_copyFrom 33 = .ok (.getfield 21, 3) := by decide +kernel
theorem dX3_copyFrom_36 : decode cX3_copyFrom 36 = .ok (.iload_n 2, 1) := by decide +kernel
theorem dX3_copyFrom_37 : decode cX3_copyFrom 37 = .ok (.aload_n 1, 1) := by decide +kernel
theorem dX3_copyFrom_38 : decode cX3_copyFrom 38 = .ok (.getfield 21, 3) := by decide +kernel
theorem dX3_copyFrom_41 : decode cX3_copyFrom 41 = .ok (.iload_n 2, 1) := by decide +kernel
theorem dX3_copyFrom_42 : decode cX3_copyFrom 42 = .ok (.iaload, 1) := by decide +kernel
theorem dX3_copyFrom_43 : decode cX3_copyFrom 43 = .ok (.iastore, 1) := by decide +kernel
theorem dX3_copyFrom_44 : decode cX3_copyFrom 44 = .ok (.aload_n 0, 1) := by decide +kernel
theorem dX3_copyFrom_45 : decode cX3_copyFrom 45 = .ok (.getfield 33, 3) := by decide +kernel
theorem dX3_copyFrom_48 : decode cX3_copyFrom 48 = .ok (.iload_n 2, 1) := by decide +kernel
theorem dX3_copyFrom_49 : decode cX3_copyFrom 49 = .ok (.aload_n 1, 1) := by decide +kernel
theorem dX3_copyFrom_50 : decode cX3_copyFrom 50 = .ok (.getfield 33, 3) := by decide +kernel
theorem dX3_copyFrom_53 : decode cX3_copyFrom 53 = .ok (.iload_n 2, 1) := by decide +kernel
theorem dX3_copyFrom_54 : decode cX3_copyFrom 54 = .ok (.iaload, 1) := by decide +kernel
theorem dX3_copyFrom_55 : decode cX3_copyFrom 55 = .ok (.iastore, 1) := by decide +kernel
theorem dX3_copyFrom_56 : decode cX3_copyFrom 56 = .ok (.iconst 0, 1) := by decide +kernel
theorem dX3_copyFrom_57 : decode cX3_copyFrom 57 = .ok (.istore_n 3, 1) := by decide +kernel
theorem dX3_copyFrom_58 : decode cX3_copyFrom 58 = .ok (.iload_n 3, 1) := by decide +kernel
theorem dX3_copyFrom_59 : decode cX3_copyFrom 59 = .ok (.bipush 8, 2) := by decide +kernel
theorem dX3_copyFrom_61 : decode cX3_copyFrom 61 = .ok (.if_icmp .ge 25, 3) := by decide +kernel
theorem dX3_copyFrom_64 : decode cX3_copyFrom 64 = .ok (.aload_n 0, 1) := by decide +kernel
theorem dX3_copyFrom_65 : decode cX3_copyFrom 65 = .ok (.getfield 30, 3) := by decide +kernel
theorem dX3_copyFrom_68 : decode cX3_copyFrom 68 = .ok (.iload_n 2, 1) := by decide +kernel
theorem dX3_copyFrom_69 : decode cX3_copyFrom 69 = .ok (.aaload, 1) := by decide +kernel
theorem dX3_copyFrom_70 : decode cX3_copyFrom 70 = .ok (.iload_n 3, 1) := by decide +kernel
theorem dX3_copyFrom_71 : decode cX3_copyFrom 71 = .ok (.aload_n 1, 1) := by decide +kernel
theorem dX3_copyFrom_72 : decode cX3_copyFrom 72 = .ok (.getfield 30, 3) := by decide +kernel
theorem dX3_copyFrom_75 : decode cX3_copyFrom 75 = .ok (.iload_n 2, 1) := by decide +kernel
theorem dX3_copyFrom_76 : decode cX3_copyFrom 76 = .ok (.aaload, 1) := by decide +kernel
theorem dX3_copyFrom_77 : decode cX3_copyFrom 77 = .ok (.iload_n 3, 1) := by decide +kernel
theorem dX3_copyFrom_78 : decode cX3_copyFrom 78 = .ok (.iaload, 1) := by decide +kernel
theorem dX3_copyFrom_79 : decode cX3_copyFrom 79 = .ok (.iastore, 1) := by decide +kernel
theorem dX3_copyFrom_80 : decode cX3_copyFrom 80 = .ok (.iinc 3 1, 3) := by decide +kernel
theorem dX3_copyFrom_83 : decode cX3_copyFrom 83 = .ok (.goto (-25), 3) := by decide +kernel
theorem dX3_copyFrom_86 : decode cX3_copyFrom 86 = .ok (.iinc 2 1, 3) := by decide +kernel
theorem dX3_copyFrom_89 : decode cX3_copyFrom 89 = .ok (.goto (-63), 3) := by decide +kernel
theorem dX3_copyFrom_92 : decode cX3_copyFrom 92 = .ok (.iconst 0, 1) := by decide +kernel
theorem dX3_copyFrom_93 : decode cX3_copyFrom 93 = .ok (.istore_n 2, 1) := by decide +kernel
theorem dX3_copyFrom_94 : decode cX3_copyFrom 94 = .ok (.iload_n 2, 1) := by decide +kernel
theorem dX3_copyFrom_95 : decode cX3_copyFrom 95 = .ok (.bipush 8, 2) := by decide +kernel
theorem dX3_copyFrom_97 : decode cX3_copyFrom 97 = .ok (.if_icmp .ge 21, 3) := by decide +kernel
theorem dX3_copyFrom_100 : decode cX3_copyFrom 100 = .ok (.aload_n 0, 1) := by decide +kernel
theorem dX3_copyFrom_101 : decode cX3_copyFrom 101 = .ok (.getfield 25, 3) := by decide +kernel
theorem dX3_copyFrom_104 : decode cX3_copyFrom 104 = .ok (.iload_n 2, 1) := by decide +kernel
theorem dX3_copyFrom_105 : decode cX3_copyFrom 105 = .ok (.aload_n 1, 1) := by decide +kernel
theorem dX3_copyFrom_106 : decode cX3_copyFrom 106 = .ok (.getfield 25, 3) := by decide +kernel
theorem dX3_copyFrom_109 : decode cX3_copyFrom 109 = .ok (.iload_n 2, 1) := by decide +kernel
theorem dX3_copyFrom_110 : decode cX3_copyFrom 110 = .ok (.iaload, 1) := by decide +kernel
theorem dX3_copyFrom_111 : decode cX3_copyFrom 111 = .ok (.iastore, 1) := by decide +kernel
theorem dX3_copyFrom_112 : decode cX3_copyFrom 112 = .ok (.iinc 2 1, 3) := by decide +kernel
theorem dX3_copyFrom_115 : decode cX3_copyFrom 115 = .ok (.goto (-21), 3) := by decide +kernel
theorem dX3_copyFrom_118 : decode cX3_copyFrom 118 = .ok (.return_, 1) := by decide +kernel
theorem dX3_isSite_0 : decode cX3_isSite 0 = .ok (.iload_n 1, 1) := by decide +kernel
theorem dX3_isSite_1 : decode cX3_isSite 1 = .ok (.ifCond .lt 15, 3) := by decide +kernel
theorem dX3_isSite_4 : decode cX3_isSite 4 = .ok (.iload_n 1, 1) := by decide +kernel
theorem dX3_isSite_5 : decode cX3_isSite 5 = .ok (.aload_n 0, 1) := by decide +kernel
theorem dX3_isSite_6 : decode cX3_isSite 6 = .ok (.getfield 9, 3) := by decide +kernel
theorem dX3_isSite_9 : decode cX3_isSite 9 = .ok (.if_icmp .ge 7, 3) := by decide +kernel
theorem dX3_isSite_12 : decode cX3_isSite 12 = .ok (.iconst 1, 1) := by decide +kernel
theorem dX3_isSite_13 : decode cX3_isSite 13 = .ok (.goto 4, 3) := by decide +kernel
theorem dX3_isSite_16 : decode cX3_isSite 16 = .ok (.iconst 0, 1) := by decide +kernel
theorem dX3_isSite_17 : decode cX3_isSite 17 = .ok (.ireturn, 1) := by decide +kernel
theorem dX3_isCustomer_0 : decode cX3_isCustomer 0 = .ok (.iload_n 1, 1) := by decide +kernel
theorem dX3_isCustomer_1 : decode cX3_isCustomer 1 = .ok (.ifCond .lt 15, 3) := by decide +kernel
theorem dX3_isCustomer_4 : decode cX3_isCustomer 4 = .ok (.iload_n 1, 1) := by decide +kernel
theorem dX3_isCustomer_5 : decode cX3_isCustomer 5 = .ok (.aload_n 0, 1) := by decide +kernel
theorem dX3_isCustomer_6 : decode cX3_isCustomer 6 = .ok (.getfield 15, 3) := by decide +kernel
theorem dX3_isCustomer_9 : decode cX3_isCustomer 9 = .ok (.if_icmp .ge 7, 3) := by decide +kernel
theorem dX3_isCustomer_12 : decode cX3_isCustomer 12 = .ok (.iconst 1, 1) := by decide +kernel
theorem dX3_isCustomer_13 : decode cX3_isCustomer 13 = .ok (.goto 4, 3) := by decide +kernel
theorem dX3_isCustomer_16 : decode cX3_isCustomer 16 = .ok (.iconst 0, 1) := by decide +kernel
theorem dX3_isCustomer_17 : decode cX3_isCustomer 17 = .ok (.ireturn, 1) := by decide +kernel
theorem dX3_isPlan_0 : decode cX3_isPlan 0 = .ok (.iload_n 1, 1) := by decide +kernel
theorem dX3_isPlan_1 : decode cX3_isPlan 1 = .ok (.ifCond .lt 15, 3) := by decide +kernel
theorem dX3_isPlan_4 : decode cX3_isPlan 4 = .ok (.iload_n 1, 1) := by decide +kernel
theorem dX3_isPlan_5 : decode cX3_isPlan 5 = .ok (.aload_n 0, 1) := by decide +kernel
theorem dX3_isPlan_6 : decode cX3_isPlan 6 = .ok (.invokevirtual 36, 3) := by decide +kernel
theorem dX3_isPlan_9 : decode cX3_isPlan 9 = .ok (.if_icmp .ge 7, 3) := by decide +kernel
theorem dX3_isPlan_12 : decode cX3_isPlan 12 = .ok (.iconst 1, 1) := by decide +kernel
theorem dX3_isPlan_13 : decode cX3_isPlan 13 = .ok (.goto 4, 3) := by decide +kernel
theorem dX3_isPlan_16 : decode cX3_isPlan 16 = .ok (.iconst 0, 1) := by decide +kernel
theorem dX3_isPlan_17 : decode cX3_isPlan 17 = .ok (.ireturn, 1) := by decide +kernel
theorem dX3_planCount_0 : decode cX3_planCount 0 = .ok (.iconst 1, 1) := by decide +kernel
theorem dX3_planCount_1 : decode cX3_planCount 1 = .ok (.aload_n 0, 1) := by decide +kernel
theorem dX3_planCount_2 : decode cX3_planCount 2 = .ok (.getfield 9, 3) := by decide +kernel
theorem dX3_planCount_5 : decode cX3_planCount 5 = .ok (.ishl, 1) := by decide +kernel
theorem dX3_planCount_6 : decode cX3_planCount 6 = .ok (.ireturn, 1) := by decide +kernel
theorem dX3_appendSite_0 : decode cX3_appendSite 0 = .ok (.aload_n 0, 1) := by decide +kernel
theorem dX3_appendSite_1 : decode cX3_appendSite 1 = .ok (.getfield 9, 3) := by decide +kernel
theorem dX3_appendSite_4 : decode cX3_appendSite 4 = .ok (.istore_n 2, 1) := by decide +kernel
theorem dX3_appendSite_5 : decode cX3_appendSite 5 = .ok (.iload_n 2, 1) := by decide +kernel
theorem dX3_appendSite_6 : decode cX3_appendSite 6 = .ok (.bipush 7, 2) := by decide +kernel
theorem dX3_appendSite_8 : decode cX3_appendSite 8 = .ok (.if_icmp .lt 6, 3) := by decide +kernel
theorem dX3_appendSite_11 : decode cX3_appendSite 11 = .ok (.bipush (-3), 2) := by decide +kernel
theorem dX3_appendSite_13 : decode cX3_appendSite 13 = .ok (.ireturn, 1) := by decide +kernel
theorem dX3_appendSite_14 : decode cX3_appendSite 14 = .ok (.aload_n 0, 1) := by decide +kernel
theorem dX3_appendSite_15 : decode cX3_appendSite 15 = .ok (.getfield 21, 3) := by decide +kernel
theorem dX3_appendSite_18 : decode cX3_appendSite 18 = .ok (.iload_n 2, 1) := by decide +kernel
theorem dX3_appendSite_19 : decode cX3_appendSite 19 = .ok (.iload_n 1, 1) := by decide +kernel
theorem dX3_appendSite_20 : decode cX3_appendSite 20 = .ok (.iastore, 1) := by decide +kernel
theorem dX3_appendSite_21 : decode cX3_appendSite 21 = .ok (.aload_n 0, 1) := by decide +kernel
theorem dX3_appendSite_22 : decode cX3_appendSite 22 = .ok (.getfield 33, 3) := by decide +kernel
theorem dX3_appendSite_25 : decode cX3_appendSite 25 = .ok (.iload_n 2, 1) := by decide +kernel
theorem dX3_appendSite_26 : decode cX3_appendSite 26 = .ok (.iconst 0, 1) := by decide +kernel
theorem dX3_appendSite_27 : decode cX3_appendSite 27 = .ok (.iastore, 1) := by decide +kernel
theorem dX3_appendSite_28 : decode cX3_appendSite 28 = .ok (.iconst 0, 1) := by decide +kernel
theorem dX3_appendSite_29 : decode cX3_appendSite 29 = .ok (.istore_n 3, 1) := by decide +kernel
theorem dX3_appendSite_30 : decode cX3_appendSite 30 = .ok (.iload_n 3, 1) := by decide +kernel
theorem dX3_appendSite_31 : decode cX3_appendSite 31 = .ok (.aload_n 0, 1) := by decide +kernel
theorem dX3_appendSite_32 : decode cX3_appendSite 32 = .ok (.getfield 15, 3) := by decide +kernel
theorem dX3_appendSite_35 : decode cX3_appendSite 35 = .ok (.if_icmp .ge 19, 3) := by decide +kernel
theorem dX3_appendSite_38 : decode cX3_appendSite 38 = .ok (.aload_n 0, 1) := by decide +kernel
theorem dX3_appendSite_39 : decode cX3_appendSite 39 = .ok (.getfield 30, 3) := by decide +kernel
theorem dX3_appendSite_42 : decode cX3_appendSite 42 = .ok (.iload_n 2, 1) := by decide +kernel
theorem dX3_appendSite_43 : decode cX3_appendSite 43 = .ok (.aaload, 1) := by decide +kernel
theorem dX3_appendSite_44 : decode cX3_appendSite 44 = .ok (.iload_n 3, 1) := by decide +kernel
theorem dX3_appendSite_45 : decode cX3_appendSite 45 = .ok (.bipush 100, 2) := by decide +kernel
theorem dX3_appendSite_47 : decode cX3_appendSite 47 = .ok (.iastore, 1) := by decide +kernel
theorem dX3_appendSite_48 : decode cX3_appendSite 48 = .ok (.iinc 3 1, 3) := by decide +kernel
theorem dX3_appendSite_51 : decode cX3_appendSite 51 = .ok (.goto (-21), 3) := by decide +kernel
theorem dX3_appendSite_54 : decode cX3_appendSite 54 = .ok (.aload_n 0, 1) := by decide +kernel
theorem dX3_appendSite_55 : decode cX3_appendSite 55 = .ok (.dup, 1) := by decide +kernel
theorem dX3_appendSite_56 : decode cX3_appendSite 56 = .ok (.getfield 9, 3) := by decide +kernel
theorem dX3_appendSite_59 : decode cX3_appendSite 59 = .ok (.iconst 1, 1) := by decide +kernel
theorem dX3_appendSite_60 : decode cX3_appendSite 60 = .ok (.iadd, 1) := by decide +kernel
theorem dX3_appendSite_61 : decode cX3_appendSite 61 = .ok (.putfield 9, 3) := by decide +kernel
theorem dX3_appendSite_64 : decode cX3_appendSite 64 = .ok (.iload_n 2, 1) := by decide +kernel
theorem dX3_appendSite_65 : decode cX3_appendSite 65 = .ok (.ireturn, 1) := by decide +kernel
theorem dX3_appendCustomer_0 : decode cX3_appendCustomer 0 = .ok (.aload_n 0, 1) := by decide +kernel
theorem dX3_appendCustomer_1 : decode cX3_appendCustomer 1 = .ok (.getfield 15, 3) := by decide +kernel
theorem dX3_appendCustomer_4 : decode cX3_appendCustomer 4 = .ok (.istore_n 2, 1) := by decide +kernel
theorem dX3_appendCustomer_5 : decode cX3_appendCustomer 5 = .ok (.iload_n 2, 1) := by decide +kernel
theorem dX3_appendCustomer_6 : decode cX3_appendCustomer 6 = .ok (.bipush 8, 2) := by decide +kernel
theorem dX3_appendCustomer_8 : decode cX3_appendCustomer 8 = .ok (.if_icmp .lt 6, 3) := by decide +kernel
theorem dX3_appendCustomer_11 : decode cX3_appendCustomer 11 = .ok (.bipush (-3), 2) := by decide +kernel
theorem dX3_appendCustomer_13 : decode cX3_appendCustomer 13 = .ok (.ireturn, 1) := by decide +kernel
theorem dX3_appendCustomer_14 : decode cX3_appendCustomer 14 = .ok (.aload_n 0, 1) := by decide +kernel
theorem dX3_appendCustomer_15 : decode cX3_appendCustomer 15 = .ok (.getfield 25, 3) := by decide +kernel
theorem dX3_appendCustomer_18 : decode cX3_appendCustomer 18 = .ok (.iload_n 2, 1) := by decide +kernel
theorem dX3_appendCustomer_19 : decode cX3_appendCustomer 19 = .ok (.iload_n 1, 1) := by decide +kernel
theorem dX3_appendCustomer_20 : decode cX3_appendCustomer 20 = .ok (.iastore, 1) := by decide +kernel
theorem dX3_appendCustomer_21 : decode cX3_appendCustomer 21 = .ok (.iconst 0, 1) := by decide +kernel
theorem dX3_appendCustomer_22 : decode cX3_appendCustomer 22 = .ok (.istore_n 3, 1) := by decide +kernel
theorem dX3_appendCustomer_23 : decode cX3_appendCustomer 23 = .ok (.iload_n 3, 1) := by decide +kernel
theorem dX3_appendCustomer_24 : decode cX3_appendCustomer 24 = .ok (.aload_n 0, 1) := by decide +kernel
theorem dX3_appendCustomer_25 : decode cX3_appendCustomer 25 = .ok (.getfield 9, 3) := by decide +kernel
theorem dX3_appendCustomer_28 : decode cX3_appendCustomer 28 = .ok (.if_icmp .ge 19, 3) := by decide +kernel
theorem dX3_appendCustomer_31 : decode cX3_appendCustomer 31 = .ok (.aload_n 0, 1) := by decide +kernel
theorem dX3_appendCustomer_32 : decode cX3_appendCustomer 32 = .ok (.getfield 30, 3) := by decide +kernel
theorem dX3_appendCustomer_35 : decode cX3_appendCustomer 35 = .ok (.iload_n 3, 1) := by decide +kernel
theorem dX3_appendCustomer_36 : decode cX3_appendCustomer 36 = .ok (.aaload, 1) := by decide +kernel
theorem dX3_appendCustomer_37 : decode cX3_appendCustomer 37 = .ok (.iload_n 2, 1) := by decide +kernel
theorem dX3_appendCustomer_38 : decode cX3_appendCustomer 38 = .ok (.bipush 100, 2) := by decide +kernel
theorem dX3_appendCustomer_40 : decode cX3_appendCustomer 40 = .ok (.iastore, 1) := by decide +kernel
theorem dX3_appendCustomer_41 : decode cX3_appendCustomer 41 = .ok (.iinc 3 1, 3) := by decide +kernel
theorem dX3_appendCustomer_44 : decode cX3_appendCustomer 44 = .ok (.goto (-21), 3) := by decide +kernel
theorem dX3_appendCustomer_47 : decode cX3_appendCustomer 47 = .ok (.aload_n 0, 1) := by decide +kernel
theorem dX3_appendCustomer_48 : decode cX3_appendCustomer 48 = .ok (.dup, 1) := by decide +kernel
theorem dX3_appendCustomer_49 : decode cX3_appendCustomer 49 = .ok (.getfield 15, 3) := by decide +kernel
theorem dX3_appendCustomer_52 : decode cX3_appendCustomer 52 = .ok (.iconst 1, 1) := by decide +kernel
theorem dX3_appendCustomer_53 : decode cX3_appendCustomer 53 = .ok (.iadd, 1) := by decide +kernel
theorem dX3_appendCustomer_54 : decode cX3_appendCustomer 54 = .ok (.putfield 15, 3) := by decide +kernel
theorem dX3_appendCustomer_57 : decode cX3_appendCustomer 57 = .ok (.iload_n 2, 1) := by decide +kernel
theorem dX3_appendCustomer_58 : decode cX3_appendCustomer 58 = .ok (.ireturn, 1) := by decide +kernel
theorem dX3_areExcluding_0 : decode cX3_areExcluding 0 = .ok (.aload_n 0, 1) := by decide +kernel
theorem dX3_areExcluding_1 : decode cX3_areExcluding 1 = .ok (.getfield 33, 3) := by decide +kernel
theorem dX3_areExcluding_4 : decode cX3_areExcluding 4 = .ok (.iload_n 1, 1) := by decide +kernel
theorem dX3_areExcluding_5 : decode cX3_areExcluding 5 = .ok (.iaload, 1) := by decide +kernel
theorem dX3_areExcluding_6 : decode cX3_areExcluding 6 = .ok (.iload_n 2, 1) := by decide +kernel
theorem dX3_areExcluding_7 : decode cX3_areExcluding 7 = .ok (.invokestatic 40, 3) := by decide +kernel
theorem dX3_areExcluding_10 : decode cX3_areExcluding 10 = .ok (.ireturn, 1) := by decide +kernel
theorem dX3_turnExclusion_0 : decode cX3_turnExclusion 0 = .ok (.aload_n 0, 1) := by decide +kernel
theorem dX3_turnExclusion_1 : decode cX3_turnExclusion 1 = .ok (.getfield 33, 3) := by decide +kernel
theorem dX3_turnExclusion_4 : decode cX3_turnExclusion 4 = .ok (.iload_n 1, 1) := by decide +kernel
theorem dX3_turnExclusion_5 : decode cX3_turnExclusion 5 = .ok (.dup2, 1) := by decide +kernel
theorem dX3_turnExclusion_6 : decode cX3_turnExclusion 6 = .ok (.iaload, 1) := by decide +kernel
theorem dX3_turnExclusion_7 : decode cX3_turnExclusion 7 = .ok (.iconst 1, 1) := by decide +kernel
theorem dX3_turnExclusion_8 : decode cX3_turnExclusion 8 = .ok (.iload_n 2, 1) := by decide +kernel
theorem dX3_turnExclusion_9 : decode cX3_turnExclusion 9 = .ok (.ishl, 1) := by decide +kernel
theorem dX3_turnExclusion_10 : decode cX3_turnExclusion 10 = .ok (.ixor, 1) := by decide +kernel
theorem dX3_turnExclusion_11 : decode cX3_turnExclusion 11 = .ok (.iastore, 1) := by decide +kernel
theorem dX3_turnExclusion_12 : decode cX3_turnExclusion 12 = .ok (.aload_n 0, 1) := by decide +kernel
theorem dX3_turnExclusion_13 : decode cX3_turnExclusion 13 = .ok (.getfield 33, 3) := by decide +kernel
theorem dX3_turnExclusion_16 : decode cX3_turnExclusion 16 = .ok (.iload_n 2, 1) := by decide +kernel
theorem dX3_turnExclusion_17 : decode cX3_turnExclusion 17 = .ok (.dup2, 1) := by decide +kernel
theorem dX3_turnExclusion_18 : decode cX3_turnExclusion 18 = .ok (.iaload, 1) := by decide +kernel
theorem dX3_turnExclusion_19 : decode cX3_turnExclusion 19 = .ok (.iconst 1, 1) := by decide +kernel
theorem dX3_turnExclusion_20 : decode cX3_turnExclusion 20 = .ok (.iload_n 1, 1) := by decide +kernel
theorem dX3_turnExclusion_21 : decode cX3_turnExclusion 21 = .ok (.ishl, 1) := by decide +kernel
theorem dX3_turnExclusion_22 : decode cX3_turnExclusion 22 = .ok (.ixor, 1) := by decide +kernel
theorem dX3_turnExclusion_23 : decode cX3_turnExclusion 23 = .ok (.iastore, 1) := by decide +kernel
theorem dX3_turnExclusion_24 : decode cX3_turnExclusion 24 = .ok (.return_, 1) := by decide +kernel
theorem dX3_hasRoute_0 : decode cX3_hasRoute 0 = .ok (.aload_n 0, 1) := by decide +kernel
theorem dX3_hasRoute_1 : decode cX3_hasRoute 1 = .ok (.getfield 30, 3) := by decide +kernel
theorem dX3_hasRoute_4 : decode cX3_hasRoute 4 = .ok (.iload_n 1, 1) := by decide +kernel
theorem dX3_hasRoute_5 : decode cX3_hasRoute 5 = .ok (.aaload, 1) := by decide +kernel
theorem dX3_hasRoute_6 : decode cX3_hasRoute 6 = .ok (.iload_n 2, 1) := by decide +kernel
theorem dX3_hasRoute_7 : decode cX3_hasRoute 7 = .ok (.iaload, 1) := by decide +kernel
theorem dX3_hasRoute_8 : decode cX3_hasRoute 8 = .ok (.bipush 100, 2) := by decide +kernel
theorem dX3_hasRoute_10 : decode cX3_hasRoute 10 = .ok (.if_icmp .eq 7, 3) := by decide +kernel
theorem dX3_hasRoute_13 : decode cX3_hasRoute 13 = .ok (.iconst 1, 1) := by decide +kernel
theorem dX3_hasRoute_14 : decode cX3_hasRoute 14 = .ok (.goto 4, 3) := by decide +kernel
theorem dX3_hasRoute_17 : decode cX3_hasRoute 17 = .ok (.iconst 0, 1) := by decide +kernel
theorem dX3_hasRoute_18 : decode cX3_hasRoute 18 = .ok (.ireturn, 1) := by decide +kernel
theorem dX3_isAllowed_0 : decode cX3_isAllowed 0 = .ok (.iload_n 1, 1) := by decide +kernel
theorem dX3_isAllowed_1 : decode cX3_isAllowed 1 = .ok (.invokestatic 44, 3) := by decide +kernel
theorem dX3_isAllowed_4 : decode cX3_isAllowed 4 = .ok (.aload_n 0, 1) := by decide +kernel
theorem dX3_isAllowed_5 : decode cX3_isAllowed 5 = .ok (.getfield 18, 3) := by decide +kernel
theorem dX3_isAllowed_8 : decode cX3_isAllowed 8 = .ok (.if_icmp .gt 15, 3) := by decide +kernel
theorem dX3_isAllowed_11 : decode cX3_isAllowed 11 = .ok (.aload_n 0, 1) := by decide +kernel
theorem dX3_isAllowed_12 : decode cX3_isAllowed 12 = .ok (.iload_n 1, 1) := by decide +kernel
theorem dX3_isAllowed_13 : decode cX3_isAllowed 13 = .ok (.invokevirtual 50, 3) := by decide +kernel
theorem dX3_isAllowed_16 : decode cX3_isAllowed 16 = .ok (.ifCond .ne 7, 3) := by decide +kernel
theorem dX3_isAllowed_19 : decode cX3_isAllowed 19 = .ok (.iconst 1, 1) := by decide +kernel
theorem dX3_isAllowed_20 : decode cX3_isAllowed 20 = .ok (.goto 4, 3) := by decide +kernel
theorem dX3_isAllowed_23 : decode cX3_isAllowed 23 = .ok (.iconst 0, 1) := by decide +kernel
theorem dX3_isAllowed_24 : decode cX3_isAllowed 24 = .ok (.ireturn, 1) := by decide +kernel
theorem dX3_hasExcludingSites_0 : decode cX3_hasExcludingSites 0 = .ok (.iconst 0, 1) := by decide +kernel
theorem dX3_hasExcludingSites_1 : decode cX3_hasExcludingSites 1 = .ok (.istore_n 2, 1) := by decide +kernel
theorem dX3_hasExcludingSites_2 : decode cX3_hasExcludingSites 2 = .ok (.iload_n 2, 1) := by decide +kernel
theorem dX3_hasExcludingSites_3 : decode cX3_hasExcludingSites 3 = .ok (.aload_n 0, 1) := by decide +kernel
theorem dX3_hasExcludingSites_4 : decode cX3_hasExcludingSites 4 = .ok (.getfield 9, 3) := by decide +kernel
theorem dX3_hasExcludingSites_7 : decode cX3_hasExcludingSites 7 = .ok (.if_icmp .ge 30, 3) := by decide +kernel
theorem dX3_hasExcludingSites_10 : decode cX3_hasExcludingSites 10 = .ok (.iload_n 1, 1) := by decide +kernel
theorem dX3_hasExcludingSites_11 : decode cX3_hasExcludingSites 11 = .ok (.iload_n 2, 1) := by decide +kernel
theorem dX3_hasExcludingSites_12 : decode cX3_hasExcludingSites 12 = .ok (.invokestatic 40, 3) := by decide +kernel
theorem dX3_hasExcludingSites_15 : decode cX3_hasExcludingSites 15 = .ok (.ifCond .eq 16, 3) := by decide +kernel
theorem dX3_hasExcludingSites_18 : decode cX3_hasExcludingSites 18 = .ok (.iload_n 1, 1) := by decide +kernel
theorem dX3_hasExcludingSites_19 : decode cX3_hasExcludingSites 19 = .ok (.aload_n 0, 1) := by decide +kernel
theorem dX3_hasExcludingSites_20 : decode cX3_hasExcludingSites 20 = .ok (.getfield 33, 3) := by decide +kernel
theorem dX3_hasExcludingSites_23 : decode cX3_hasExcludingSites 23 = .ok (.iload_n 2, 1) := by decide +kernel
theorem dX3_hasExcludingSites_24 : decode cX3_hasExcludingSites 24 = .ok (.iaload, 1) := by decide +kernel
theorem dX3_hasExcludingSites_25 : decode cX3_hasExcludingSites 25 = .ok (.iand, 1) := by decide +kernel
theorem dX3_hasExcludingSites_26 : decode cX3_hasExcludingSites 26 = .ok (.ifCond .eq 5, 3) := by decide +kernel
theorem dX3_hasExcludingSites_29 : decode cX3_hasExcludingSites 29 = .ok (.iconst 1, 1) := by decide +kernel
theorem dX3_hasExcludingSites_30 : decode cX3_hasExcludingSites 30 = .ok (.ireturn, 1) := by decide +kernel
theorem dX3_hasExcludingSites_31 : decode cX3_hasExcludingSites 31 = .ok (.iinc 2 1, 3) := by decide +kernel
theorem dX3_hasExcludingSites_34 : decode cX3_hasExcludingSites 34 = .ok (.goto (-32), 3) := by decide +kernel
theorem dX3_hasExcludingSites_37 : decode cX3_hasExcludingSites 37 = .ok (.iconst 0, 1) := by decide +kernel
theorem dX3_hasExcludingSites_38 : decode cX3_hasExcludingSites 38 = .ok (.ireturn, 1) := by decide +kernel
theorem dX3_verdictOf_0 : decode cX3_verdictOf 0 = .ok (.iload_n 1, 1) := by decide +kernel
theorem dX3_verdictOf_1 : decode cX3_verdictOf 1 = .ok (.invokestatic 44, 3) := by decide +kernel
theorem dX3_verdictOf_4 : decode cX3_verdictOf 4 = .ok (.aload_n 0, 1) := by decide +kernel
theorem dX3_verdictOf_5 : decode cX3_verdictOf 5 = .ok (.getfield 18, 3) := by decide +kernel
theorem dX3_verdictOf_8 : decode cX3_verdictOf 8 = .ok (.if_icmp .le 5, 3) := by decide +kernel
theorem dX3_verdictOf_11 : decode cX3_verdictOf 11 = .ok (.iconst 1, 1) := by decide +kernel
theorem dX3_verdictOf_12 : decode cX3_verdictOf 12 = .ok (.ireturn, 1) := by decide +kernel
theorem dX3_verdictOf_13 : decode cX3_verdictOf 13 = .ok (.aload_n 0, 1) := by decide +kernel
theorem dX3_verdictOf_14 : decode cX3_verdictOf 14 = .ok (.iload_n 1, 1) := by decide +kernel
theorem dX3_verdictOf_15 : decode cX3_verdictOf 15 = .ok (.invokevirtual 50, 3) := by decide +kernel
theorem dX3_verdictOf_18 : decode cX3_verdictOf 18 = .ok (.ifCond .eq 5, 3) := by decide +kernel
theorem dX3_verdictOf_21 : decode cX3_verdictOf 21 = .ok (.iconst 2, 1) := by decide +kernel
theorem dX3_verdictOf_22 : decode cX3_verdictOf 22 = .ok (.ireturn, 1) := by decide +kernel
theorem dX3_verdictOf_23 : decode cX3_verdictOf 23 = .ok (.aload_n 0, 1) := by decide +kernel
theorem dX3_verdictOf_24 : decode cX3_verdictOf 24 = .ok (.iload_n 1, 1) := by decide +kernel
theorem dX3_verdictOf_25 : decode cX3_verdictOf 25 = .ok (.invokevirtual 54, 3) := by decide +kernel
theorem dX3_verdictOf_28 : decode cX3_verdictOf 28 = .ok (.ifCond .eq 7, 3) := by decide +kernel
theorem dX3_verdictOf_31 : decode cX3_verdictOf 31 = .ok (.iconst 0, 1) := by decide +kernel
theorem dX3_verdictOf_32 : decode cX3_verdictOf 32 = .ok (.goto 4, 3) := by decide +kernel
theorem dX3_verdictOf_35 : decode cX3_verdictOf 35 = .ok (.iconst 3, 1) := by decide +kernel
theorem dX3_verdictOf_36 : decode cX3_verdictOf 36 = .ok (.ireturn, 1) := by decide +kernel
theorem dX3_leastRoutePrice_0 : decode cX3_leastRoutePrice 0 = .ok (.bipush 100, 2) := by decide +kernel
theorem dX3_leastRoutePrice_2 : decode cX3_leastRoutePrice 2 = .ok (.istore_n 3, 1) := by decide +kernel
theorem dX3_leastRoutePrice_3 : decode cX3_leastRoutePrice 3 = .ok (.iconst 0, 1) := by decide +kernel
theorem dX3_leastRoutePrice_4 : decode cX3_leastRoutePrice 4 = .ok (.istore 4, 2) := by decide +kernel
theorem dX3_leastRoutePrice_6 : decode cX3_leastRoutePrice 6 = .ok (.iload 4, 2) := by decide +kernel
theorem dX3_leastRoutePrice_8 : decode cX3_leastRoutePrice 8 = .ok (.aload_n 0, 1) := by decide +kernel
theorem dX3_leastRoutePrice_9 : decode cX3_leastRoutePrice 9 = .ok (.getfield 9, 3) := by decide +kernel
theorem dX3_leastRoutePrice_12 : decode cX3_leastRoutePrice 12 = .ok (.if_icmp .ge 32, 3) := by decide +kernel
theorem dX3_leastRoutePrice_15 : decode cX3_leastRoutePrice 15 = .ok (.iload_n 1, 1) := by decide +kernel
theorem dX3_leastRoutePrice_16 : decode cX3_leastRoutePrice 16 = .ok (.iload 4, 2) := by decide +kernel
theorem dX3_leastRoutePrice_18 : decode cX3_leastRoutePrice 18 = .ok (.invokestatic 40, 3) := by decide +kernel
theorem dX3_leastRoutePrice_21 : decode cX3_leastRoutePrice 21 = .ok (.ifCond .eq 17, 3) := by decide +kernel
theorem dX3_leastRoutePrice_24 : decode cX3_leastRoutePrice 24 = .ok (.iload_n 3, 1) := by decide +kernel
theorem dX3_leastRoutePrice_25 : decode cX3_leastRoutePrice 25 = .ok (.aload_n 0, 1) := by decide +kernel
theorem dX3_leastRoutePrice_26 : decode cX3_leastRoutePrice 26 = .ok (.getfield 30, 3) := by decide +kernel
theorem dX3_leastRoutePrice_29 : decode cX3_leastRoutePrice 29 = .ok (.iload 4, 2) := by decide +kernel
theorem dX3_leastRoutePrice_31 : decode cX3_leastRoutePrice 31 = .ok (.aaload, 1) := by decide +kernel
theorem dX3_leastRoutePrice_32 : decode cX3_leastRoutePrice 32 = .ok (.iload_n 2, 1) := by decide +kernel
theorem dX3_leastRoutePrice_33 : decode cX3_leastRoutePrice 33 = .ok (.iaload, 1) := by decide +kernel
theorem dX3_leastRoutePrice_34 : decode cX3_leastRoutePrice 34 = .ok (.invokestatic 57, 3) := by decide +kernel
theorem dX3_leastRoutePrice_37 : decode cX3_leastRoutePrice 37 = .ok (.istore_n 3, 1) := by decide +kernel
theorem dX3_leastRoutePrice_38 : decode cX3_leastRoutePrice 38 = .ok (.iinc 4 1, 3) := by decide +kernel
theorem dX3_leastRoutePrice_41 : decode cX3_leastRoutePrice 41 = .ok (.goto (-35), 3) := by decide +kernel
theorem dX3_leastRoutePrice_44 : decode cX3_leastRoutePrice 44 = .ok (.iload_n 3, 1) := by decide +kernel
theorem dX3_leastRoutePrice_45 : decode cX3_leastRoutePrice 45 = .ok (.ireturn, 1) := by decide +kernel
theorem dX3_cheapestSite_0 : decode cX3_cheapestSite 0 = .ok (.aload_n 0, 1) := by decide +kernel
theorem dX3_cheapestSite_1 : decode cX3_cheapestSite 1 = .ok (.iload_n 1, 1) := by decide +kernel
theorem dX3_cheapestSite_2 : decode cX3_cheapestSite 2 = .ok (.iload_n 2, 1) := by decide +kernel
theorem dX3_cheapestSite_3 : decode cX3_cheapestSite 3 = .ok (.invokevirtual 63, 3) := by decide +kernel
theorem dX3_cheapestSite_6 : decode cX3_cheapestSite 6 = .ok (.istore_n 3, 1) := by decide +kernel
theorem dX3_cheapestSite_7 : decode cX3_cheapestSite 7 = .ok (.iconst 0, 1) := by decide +kernel
theorem dX3_cheapestSite_8 : decode cX3_cheapestSite 8 = .ok (.istore 4, 2) := by decide +kernel
theorem dX3_cheapestSite_10 : decode cX3_cheapestSite 10 = .ok (.iload 4, 2) := by decide +kernel
theorem dX3_cheapestSite_12 : decode cX3_cheapestSite 12 = .ok (.aload_n 0, 1) := by decide +kernel
theorem dX3_cheapestSite_13 : decode cX3_cheapestSite 13 = .ok (.getfield 9, 3) := by decide +kernel
theorem dX3_cheapestSite_16 : decode cX3_cheapestSite 16 = .ok (.if_icmp .ge 44, 3) := by decide +kernel
theorem dX3_cheapestSite_19 : decode cX3_cheapestSite 19 = .ok (.iload_n 1, 1) := by decide +kernel
theorem dX3_cheapestSite_20 : decode cX3_cheapestSite 20 = .ok (.iload 4, 2) := by decide +kernel
theorem dX3_cheapestSite_22 : decode cX3_cheapestSite 22 = .ok (.invokestatic 40, 3) := by decide +kernel
theorem dX3_cheapestSite_25 : decode cX3_cheapestSite 25 = .ok (.ifCond .eq 29, 3) := by decide +kernel
theorem dX3_cheapestSite_28 : decode cX3_cheapestSite 28 = .ok (.aload_n 0, 1) := by decide +kernel
theorem dX3_cheapestSite_29 : decode cX3_cheapestSite 29 = .ok (.iload 4, 2) := by decide +kernel
theorem dX3_cheapestSite_31 : decode cX3_cheapestSite 31 = .ok (.iload_n 2, 1) := by decide +kernel
theorem dX3_cheapestSite_32 : decode cX3_cheapestSite 32 = .ok (.invokevirtual 66, 3) := by decide +kernel
theorem dX3_cheapestSite_35 : decode cX3_cheapestSite 35 = .ok (.ifCond .eq 19, 3) := by decide +kernel
theorem dX3_cheapestSite_38 : decode cX3_cheapestSite 38 = .ok (.aload_n 0, 1) := by decide +kernel
theorem dX3_cheapestSite_39 : decode cX3_cheapestSite 39 = .ok (.getfield 30, 3) := by decide +kernel
theorem dX3_cheapestSite_42 : decode cX3_cheapestSite 42 = .ok (.iload 4, 2) := by decide +kernel
theorem dX3_cheapestSite_44 : decode cX3_cheapestSite 44 = .ok (.aaload, 1) := by decide +kernel
theorem dX3_cheapestSite_45 : decode cX3_cheapestSite 45 = .ok (.iload_n 2, 1) := by decide +kernel
theorem dX3_cheapestSite_46 : decode cX3_cheapestSite 46 = .ok (.iaload, 1) := by decide +kernel
theorem dX3_cheapestSite_47 : decode cX3_cheapestSite 47 = .ok (.iload_n 3, 1) := by decide +kernel
theorem dX3_cheapestSite_48 : decode cX3_cheapestSite 48 = .ok (.if_icmp .ne 6, 3) := by decide +kernel
theorem dX3_cheapestSite_51 : decode cX3_cheapestSite 51 = .ok (.iload 4, 2) := by decide +kernel
theorem dX3_cheapestSite_53 : decode cX3_cheapestSite 53 = .ok (.ireturn, 1) := by decide +kernel
theorem dX3_cheapestSite_54 : decode cX3_cheapestSite 54 = .ok (.iinc 4 1, 3) := by decide +kernel
theorem dX3_cheapestSite_57 : decode cX3_cheapestSite 57 = .ok (.goto (-47), 3) := by decide +kernel
theorem dX3_cheapestSite_60 : decode cX3_cheapestSite 60 = .ok (.iconst (-1), 1) := by decide +kernel
theorem dX3_cheapestSite_61 : decode cX3_cheapestSite 61 = .ok (.ireturn, 1) := by decide +kernel
theorem dX3_lowestMissedCustomer_0 : decode cX3_lowestMissedCustomer 0 = .ok (.iconst 0, 1) := by decide +kernel
theorem dX3_lowestMissedCustomer_1 : decode cX3_lowestMissedCustomer 1 = .ok (.istore_n 2, 1) := by decide +kernel
theorem dX3_lowestMissedCustomer_2 : decode cX3_lowestMissedCustomer 2 = .ok (.iload_n 2, 1) := by decide +kernel
theorem dX3_lowestMissedCustomer_3 : decode cX3_lowestMissedCustomer 3 = .ok (.aload_n 0, 1) := by decide +kernel
theorem dX3_lowestMissedCustomer_4 : decode cX3_lowestMissedCustomer 4 = .ok (.getfield 15, 3) := by decide +kernel
theorem dX3_lowestMissedCustomer_7 : decode cX3_lowestMissedCustomer 7 = .ok (.if_icmp .ge 22, 3) := by decide +kernel
theorem dX3_lowestMissedCustomer_10 : decode cX3_lowestMissedCustomer 10 = .ok (.aload_n 0, 1) := by decide +kernel
theorem dX3_lowestMissedCustomer_11 : decode cX3_lowestMissedCustomer 11 = .ok (.iload_n 1, 1) := by decide +kernel
theorem dX3_lowestMissedCustomer_12 : decode cX3_lowestMissedCustomer 12 = .ok (.iload_n 2, 1) := by decide +kernel
theorem dX3_lowestMissedCustomer_13 : decode cX3_lowestMissedCustomer 13 = .ok (.invokevirtual 63, 3) := by decide +kernel
theorem dX3_lowestMissedCustomer_16 : decode cX3_lowestMissedCustomer 16 = .ok (.bipush 100, 2) := by decide +kernel
theorem dX3_lowestMissedCustomer_18 : decode cX3_lowestMissedCustomer 18 = .ok (.if_icmp .ne 5, 3) := by decide +kernel
theorem dX3_lowestMissedCustomer_21 : decode cX3_lowestMissedCustomer 21 = .ok (.iload_n 2, 1) := by decide +kernel
theorem dX3_lowestMissedCustomer_22 : decode cX3_lowestMissedCustomer 22 = .ok (.ireturn, 1) := by decide +kernel
theorem dX3_lowestMissedCustomer_23 : decode cX3_lowestMissedCustomer 23 = .ok (.iinc 2 1, 3) := by decide +kernel
theorem dX3_lowestMissedCustomer_26 : decode cX3_lowestMissedCustomer 26 = .ok (.goto (-24), 3) := by decide +kernel
theorem dX3_lowestMissedCustomer_29 : decode cX3_lowestMissedCustomer 29 = .ok (.iconst (-1), 1) := by decide +kernel
theorem dX3_lowestMissedCustomer_30 : decode cX3_lowestMissedCustomer 30 = .ok (.ireturn, 1) := by decide +kernel
theorem dX3_reachesAll_0 : decode cX3_reachesAll 0 = .ok (.aload_n 0, 1) := by decide +kernel
theorem dX3_reachesAll_1 : decode cX3_reachesAll 1 = .ok (.iload_n 1, 1) := by decide +kernel
theorem dX3_reachesAll_2 : decode cX3_reachesAll 2 = .ok (.invokevirtual 69, 3) := by decide +kernel
theorem dX3_reachesAll_5 : decode cX3_reachesAll 5 = .ok (.iconst (-1), 1) := by decide +kernel
theorem dX3_reachesAll_6 : decode cX3_reachesAll 6 = .ok (.if_icmp .ne 7, 3) := by decide +kernel
theorem dX3_reachesAll_9 : decode cX3_reachesAll 9 = .ok (.iconst 1, 1) := by decide +kernel
theorem dX3_reachesAll_10 : decode cX3_reachesAll 10 = .ok (.goto 4, 3) := by decide +kernel
theorem dX3_reachesAll_13 : decode cX3_reachesAll 13 = .ok (.iconst 0, 1) := by decide +kernel
theorem dX3_reachesAll_14 : decode cX3_reachesAll 14 = .ok (.ireturn, 1) := by decide +kernel
theorem dX3_sitePricesOf_0 : decode cX3_sitePricesOf 0 = .ok (.iconst 0, 1) := by decide +kernel
theorem dX3_sitePricesOf_1 : decode cX3_sitePricesOf 1 = .ok (.istore_n 2, 1) := by decide +kernel
theorem dX3_sitePricesOf_2 : decode cX3_sitePricesOf 2 = .ok (.iconst 0, 1) := by decide +kernel
theorem dX3_sitePricesOf_3 : decode cX3_sitePricesOf 3 = .ok (.istore_n 3, 1) := by decide +kernel
theorem dX3_sitePricesOf_4 : decode cX3_sitePricesOf 4 = .ok (.iload_n 3, 1) := by decide +kernel
theorem dX3_sitePricesOf_5 : decode cX3_sitePricesOf 5 = .ok (.aload_n 0, 1) := by decide +kernel
theorem dX3_sitePricesOf_6 : decode cX3_sitePricesOf 6 = .ok (.getfield 9, 3) := by decide +kernel
theorem dX3_sitePricesOf_9 : decode cX3_sitePricesOf 9 = .ok (.if_icmp .ge 26, 3) := by decide +kernel
theorem dX3_sitePricesOf_12 : decode cX3_sitePricesOf 12 = .ok (.iload_n 1, 1) := by decide +kernel
theorem dX3_sitePricesOf_13 : decode cX3_sitePricesOf 13 = .ok (.iload_n 3, 1) := by decide +kernel
theorem dX3_sitePricesOf_14 : decode cX3_sitePricesOf 14 = .ok (.invokestatic 40, 3) := by decide +kernel
theorem dX3_sitePricesOf_17 : decode cX3_sitePricesOf 17 = .ok (.ifCond .eq 12, 3) := by decide +kernel
theorem dX3_sitePricesOf_20 : decode cX3_sitePricesOf 20 = .ok (.iload_n 2, 1) := by decide +kernel
theorem dX3_sitePricesOf_21 : decode cX3_sitePricesOf 21 = .ok (.aload_n 0, 1) := by decide +kernel
theorem dX3_sitePricesOf_22 : decode cX3_sitePricesOf 22 = .ok (.getfield 21, 3) := by decide +kernel
theorem dX3_sitePricesOf_25 : decode cX3_sitePricesOf 25 = .ok (.iload_n 3, 1) := by decide +kernel
theorem dX3_sitePricesOf_26 : decode cX3_sitePricesOf 26 = .ok (.iaload, 1) := by decide +kernel
theorem dX3_sitePricesOf_27 : decode cX3_sitePricesOf 27 = .ok (.iadd, 1) := by decide +kernel
theorem dX3_sitePricesOf_28 : decode cX3_sitePricesOf 28 = .ok (.istore_n 2, 1) := by decide +kernel
theorem dX3_sitePricesOf_29 : decode cX3_sitePricesOf 29 = .ok (.iinc 3 1, 3) := by decide +kernel
theorem dX3_sitePricesOf_32 : decode cX3_sitePricesOf 32 = .ok (.goto (-28), 3) := by decide +kernel
theorem dX3_sitePricesOf_35 : decode cX3_sitePricesOf 35 = .ok (.iload_n 2, 1) := by decide +kernel
theorem dX3_sitePricesOf_36 : decode cX3_sitePricesOf 36 = .ok (.ireturn, 1) := by decide +kernel
theorem dX3_routeCostOf_0 : decode cX3_routeCostOf 0 = .ok (.iconst 0, 1) := by decide +kernel
theorem dX3_routeCostOf_1 : decode cX3_routeCostOf 1 = .ok (.istore_n 2, 1) := by decide +kernel
theorem dX3_routeCostOf_2 : decode cX3_routeCostOf 2 = .ok (.iconst 0, 1) := by decide +kernel
theorem dX3_routeCostOf_3 : decode cX3_routeCostOf 3 = .ok (.istore_n 3, 1) := by decide +kernel
theorem dX3_routeCostOf_4 : decode cX3_routeCostOf 4 = .ok (.iload_n 3, 1) := by decide +kernel
theorem dX3_routeCostOf_5 : decode cX3_routeCostOf 5 = .ok (.aload_n 0, 1) := by decide +kernel
theorem dX3_routeCostOf_6 : decode cX3_routeCostOf 6 = .ok (.getfield 15, 3) := by decide +kernel
theorem dX3_routeCostOf_9 : decode cX3_routeCostOf 9 = .ok (.if_icmp .ge 25, 3) := by decide +kernel
theorem dX3_routeCostOf_12 : decode cX3_routeCostOf 12 = .ok (.iload_n 2, 1) := by decide +kernel
theorem dX3_routeCostOf_13 : decode cX3_routeCostOf 13 = .ok (.aload_n 0, 1) := by decide +kernel
theorem dX3_routeCostOf_14 : decode cX3_routeCostOf 14 = .ok (.getfield 25, 3) := by decide +kernel
theorem dX3_routeCostOf_17 : decode cX3_routeCostOf 17 = .ok (.iload_n 3, 1) := by decide +kernel
theorem dX3_routeCostOf_18 : decode cX3_routeCostOf 18 = .ok (.iaload, 1) := by decide +kernel
theorem dX3_routeCostOf_19 : decode cX3_routeCostOf 19 = .ok (.aload_n 0, 1) := by decide +kernel
theorem dX3_routeCostOf_20 : decode cX3_routeCostOf 20 = .ok (.iload_n 1, 1) := by decide +kernel
theorem dX3_routeCostOf_21 : decode cX3_routeCostOf 21 = .ok (.iload_n 3, 1) := by decide +kernel
theorem dX3_routeCostOf_22 : decode cX3_routeCostOf 22 = .ok (.invokevirtual 63, 3) := by decide +kernel
theorem dX3_routeCostOf_25 : decode cX3_routeCostOf 25 = .ok (.imul, 1) := by decide +kernel
theorem dX3_routeCostOf_26 : decode cX3_routeCostOf 26 = .ok (.iadd, 1) := by decide +kernel
theorem dX3_routeCostOf_27 : decode cX3_routeCostOf 27 = .ok (.istore_n 2, 1) := by decide +kernel
theorem dX3_routeCostOf_28 : decode cX3_routeCostOf 28 = .ok (.iinc 3 1, 3) := by decide +kernel
theorem dX3_routeCostOf_31 : decode cX3_routeCostOf 31 = .ok (.goto (-27), 3) := by decide +kernel
theorem dX3_routeCostOf_34 : decode cX3_routeCostOf 34 = .ok (.iload_n 2, 1) := by decide +kernel
theorem dX3_routeCostOf_35 : decode cX3_routeCostOf 35 = .ok (.ireturn, 1) := by decide +kernel
theorem dX3_costOf_0 : decode cX3_costOf 0 = .ok (.aload_n 0, 1) := by decide +kernel
theorem dX3_costOf_1 : decode cX3_costOf 1 = .ok (.iload_n 1, 1) := by decide +kernel
theorem dX3_costOf_2 : decode cX3_costOf 2 = .ok (.invokevirtual 72, 3) := by decide +kernel
theorem dX3_costOf_5 : decode cX3_costOf 5 = .ok (.aload_n 0, 1) := by decide +kernel
theorem dX3_costOf_6 : decode cX3_costOf 6 = .ok (.iload_n 1, 1) := by decide +kernel
theorem dX3_costOf_7 : decode cX3_costOf 7 = .ok (.invokevirtual 75, 3) := by decide +kernel
theorem dX3_costOf_10 : decode cX3_costOf 10 = .ok (.iadd, 1) := by decide +kernel
theorem dX3_costOf_11 : decode cX3_costOf 11 = .ok (.ireturn, 1) := by decide +kernel
theorem dX3_isFeasible_0 : decode cX3_isFeasible 0 = .ok (.aload_n 0, 1) := by decide +kernel
theorem dX3_isFeasible_1 : decode cX3_isFeasible 1 = .ok (.iload_n 1, 1) := by decide +kernel
theorem dX3_isFeasible_2 : decode cX3_isFeasible 2 = .ok (.invokevirtual 78, 3) := by decide +kernel
theorem dX3_isFeasible_5 : decode cX3_isFeasible 5 = .ok (.ifCond .eq 15, 3) := by decide +kernel
theorem dX3_isFeasible_8 : decode cX3_isFeasible 8 = .ok (.aload_n 0, 1) := by decide +kernel
theorem dX3_isFeasible_9 : decode cX3_isFeasible 9 = .ok (.iload_n 1, 1) := by decide +kernel
theorem dX3_isFeasible_10 : decode cX3_isFeasible 10 = .ok (.invokevirtual 54, 3) := by decide +kernel
theorem dX3_isFeasible_13 : decode cX3_isFeasible 13 = .ok (.ifCond .eq 7, 3) := by decide +kernel
theorem dX3_isFeasible_16 : decode cX3_isFeasible 16 = .ok (.iconst 1, 1) := by decide +kernel
theorem dX3_isFeasible_17 : decode cX3_isFeasible 17 = .ok (.goto 4, 3) := by decide +kernel
theorem dX3_isFeasible_20 : decode cX3_isFeasible 20 = .ok (.iconst 0, 1) := by decide +kernel
theorem dX3_isFeasible_21 : decode cX3_isFeasible 21 = .ok (.ireturn, 1) := by decide +kernel
theorem dX3_findBestPlan_0 : decode cX3_findBestPlan 0 = .ok (.iconst (-1), 1) := by decide +kernel
theorem dX3_findBestPlan_1 : decode cX3_findBestPlan 1 = .ok (.istore_n 1, 1) := by decide +kernel
theorem dX3_findBestPlan_2 : decode cX3_findBestPlan 2 = .ok (.iconst 0, 1) := by decide +kernel
theorem dX3_findBestPlan_3 : decode cX3_findBestPlan 3 = .ok (.istore_n 2, 1) := by decide +kernel
theorem dX3_findBestPlan_4 : decode cX3_findBestPlan 4 = .ok (.iconst 0, 1) := by decide +kernel
theorem dX3_findBestPlan_5 : decode cX3_findBestPlan 5 = .ok (.istore_n 3, 1) := by decide +kernel
theorem dX3_findBestPlan_6 : decode cX3_findBestPlan 6 = .ok (.iload_n 3, 1) := by decide +kernel
theorem dX3_findBestPlan_7 : decode cX3_findBestPlan 7 = .ok (.aload_n 0, 1) := by decide +kernel
theorem dX3_findBestPlan_8 : decode cX3_findBestPlan 8 = .ok (.invokevirtual 36, 3) := by decide +kernel
theorem dX3_findBestPlan_11 : decode cX3_findBestPlan 11 = .ok (.if_icmp .ge 39, 3) := by decide +kernel
theorem dX3_findBestPlan_14 : decode cX3_findBestPlan 14 = .ok (.aload_n 0, 1) := by decide +kernel
theorem dX3_findBestPlan_15 : decode cX3_findBestPlan 15 = .ok (.iload_n 3, 1) := by decide +kernel
theorem dX3_findBestPlan_16 : decode cX3_findBestPlan 16 = .ok (.invokevirtual 81, 3) := by decide +kernel
theorem dX3_findBestPlan_19 : decode cX3_findBestPlan 19 = .ok (.ifCond .eq 25, 3) := by decide +kernel
theorem dX3_findBestPlan_22 : decode cX3_findBestPlan 22 = .ok (.iload_n 1, 1) := by decide +kernel
theorem dX3_findBestPlan_23 : decode cX3_findBestPlan 23 = .ok (.iconst (-1), 1) := by decide +kernel
theorem dX3_findBestPlan_24 : decode cX3_findBestPlan 24 = .ok (.if_icmp .eq 12, 3) := by decide +kernel
theorem dX3_findBestPlan_27 : decode cX3_findBestPlan 27 = .ok (.aload_n 0, 1) := by decide +kernel
theorem dX3_findBestPlan_28 : decode cX3_findBestPlan 28 = .ok (.iload_n 3, 1) := by decide +kernel
theorem dX3_findBestPlan_29 : decode cX3_findBestPlan 29 = .ok (.invokevirtual 84, 3) := by decide +kernel
theorem dX3_findBestPlan_32 : decode cX3_findBestPlan 32 = .ok (.iload_n 2, 1) := by decide +kernel
theorem dX3_findBestPlan_33 : decode cX3_findBestPlan 33 = .ok (.if_icmp .ge 11, 3) := by decide +kernel
theorem dX3_findBestPlan_36 : decode cX3_findBestPlan 36 = .ok (.iload_n 3, 1) := by decide +kernel
theorem dX3_findBestPlan_37 : decode cX3_findBestPlan 37 = .ok (.istore_n 1, 1) := by decide +kernel
theorem dX3_findBestPlan_38 : decode cX3_findBestPlan 38 = .ok (.aload_n 0, 1) := by decide +kernel
theorem dX3_findBestPlan_39 : decode cX3_findBestPlan 39 = .ok (.iload_n 3, 1) := by decide +kernel
theorem dX3_findBestPlan_40 : decode cX3_findBestPlan 40 = .ok (.invokevirtual 84, 3) := by decide +kernel
theorem dX3_findBestPlan_43 : decode cX3_findBestPlan 43 = .ok (.istore_n 2, 1) := by decide +kernel
theorem dX3_findBestPlan_44 : decode cX3_findBestPlan 44 = .ok (.iinc 3 1, 3) := by decide +kernel
theorem dX3_findBestPlan_47 : decode cX3_findBestPlan 47 = .ok (.goto (-41), 3) := by decide +kernel
theorem dX3_findBestPlan_50 : decode cX3_findBestPlan 50 = .ok (.iload_n 1, 1) := by decide +kernel
theorem dX3_findBestPlan_51 : decode cX3_findBestPlan 51 = .ok (.ireturn, 1) := by decide +kernel
theorem dX3_countFeasiblePlans_0 : decode cX3_countFeasiblePlans 0 = .ok (.iconst 0, 1) := by decide +kernel
theorem dX3_countFeasiblePlans_1 : decode cX3_countFeasiblePlans 1 = .ok (.istore_n 1, 1) := by decide +kernel
theorem dX3_countFeasiblePlans_2 : decode cX3_countFeasiblePlans 2 = .ok (.iconst 0, 1) := by decide +kernel
theorem dX3_countFeasiblePlans_3 : decode cX3_countFeasiblePlans 3 = .ok (.istore_n 2, 1) := by decide +kernel
theorem dX3_countFeasiblePlans_4 : decode cX3_countFeasiblePlans 4 = .ok (.iload_n 2, 1) := by decide +kernel
theorem dX3_countFeasiblePlans_5 : decode cX3_countFeasiblePlans 5 = .ok (.aload_n 0, 1) := by decide +kernel
theorem dX3_countFeasiblePlans_6 : decode cX3_countFeasiblePlans 6 = .ok (.invokevirtual 36, 3) := by decide +kernel
theorem dX3_countFeasiblePlans_9 : decode cX3_countFeasiblePlans 9 = .ok (.if_icmp .ge 20, 3) := by decide +kernel
theorem dX3_countFeasiblePlans_12 : decode cX3_countFeasiblePlans 12 = .ok (.aload_n 0, 1) := by decide +kernel
theorem dX3_countFeasiblePlans_13 : decode cX3_countFeasiblePlans 13 = .ok (.iload_n 2, 1) := by decide +kernel
theorem dX3_countFeasiblePlans_14 : decode cX3_countFeasiblePlans 14 = .ok (.invokevirtual 81, 3) := by decide +kernel
theorem dX3_countFeasiblePlans_17 : decode cX3_countFeasiblePlans 17 = .ok (.ifCond .eq 6, 3) := by decide +kernel
theorem dX3_countFeasiblePlans_20 : decode cX3_countFeasiblePlans 20 = .ok (.iinc 1 1, 3) := by decide +kernel
theorem dX3_countFeasiblePlans_23 : decode cX3_countFeasiblePlans 23 = .ok (.iinc 2 1, 3) := by decide +kernel
theorem dX3_countFeasiblePlans_26 : decode cX3_countFeasiblePlans 26 = .ok (.goto (-22), 3) := by decide +kernel
theorem dX3_countFeasiblePlans_29 : decode cX3_countFeasiblePlans 29 = .ok (.iload_n 1, 1) := by decide +kernel
theorem dX3_countFeasiblePlans_30 : decode cX3_countFeasiblePlans 30 = .ok (.ireturn, 1) := by decide +kernel
theorem dX3_countRoutes_0 : decode cX3_countRoutes 0 = .ok (.iconst 0, 1) := by decide +kernel
theorem dX3_countRoutes_1 : decode cX3_countRoutes 1 = .ok (.istore_n 1, 1) := by decide +kernel
theorem dX3_countRoutes_2 : decode cX3_countRoutes 2 = .ok (.iconst 0, 1) := by decide +kernel
theorem dX3_countRoutes_3 : decode cX3_countRoutes 3 = .ok (.istore_n 2, 1) := by decide +kernel
theorem dX3_countRoutes_4 : decode cX3_countRoutes 4 = .ok (.iload_n 2, 1) := by decide +kernel
theorem dX3_countRoutes_5 : decode cX3_countRoutes 5 = .ok (.aload_n 0, 1) := by decide +kernel
theorem dX3_countRoutes_6 : decode cX3_countRoutes 6 = .ok (.getfield 9, 3) := by decide +kernel
theorem dX3_countRoutes_9 : decode cX3_countRoutes 9 = .ok (.if_icmp .ge 37, 3) := by decide +kernel
theorem dX3_countRoutes_12 : decode cX3_countRoutes 12 = .ok (.iconst 0, 1) := by decide +kernel
theorem dX3_countRoutes_13 : decode cX3_countRoutes 13 = .ok (.istore_n 3, 1) := by decide +kernel
theorem dX3_countRoutes_14 : decode cX3_countRoutes 14 = .ok (.iload_n 3, 1) := by decide +kernel
theorem dX3_countRoutes_15 : decode cX3_countRoutes 15 = .ok (.aload_n 0, 1) := by decide +kernel
theorem dX3_countRoutes_16 : decode cX3_countRoutes 16 = .ok (.getfield 15, 3) := by decide +kernel
theorem dX3_countRoutes_19 : decode cX3_countRoutes 19 = .ok (.if_icmp .ge 21, 3) := by decide +kernel
theorem dX3_countRoutes_22 : decode cX3_countRoutes 22 = .ok (.aload_n 0, 1) := by decide +kernel
theorem dX3_countRoutes_23 : decode cX3_countRoutes 23 = .ok (.iload_n 2, 1) := by decide +kernel
theorem dX3_countRoutes_24 : decode cX3_countRoutes 24 = .ok (.iload_n 3, 1) := by decide +kernel
theorem dX3_countRoutes_25 : decode cX3_countRoutes 25 = .ok (.invokevirtual 66, 3) := by decide +kernel
theorem dX3_countRoutes_28 : decode cX3_countRoutes 28 = .ok (.ifCond .eq 6, 3) := by decide +kernel
theorem dX3_countRoutes_31 : decode cX3_countRoutes 31 = .ok (.iinc 1 1, 3) := by decide +kernel
theorem dX3_countRoutes_34 : decode cX3_countRoutes 34 = .ok (.iinc 3 1, 3) := by decide +kernel
theorem dX3_countRoutes_37 : decode cX3_countRoutes 37 = .ok (.goto (-23), 3) := by decide +kernel
theorem dX3_countRoutes_40 : decode cX3_countRoutes 40 = .ok (.iinc 2 1, 3) := by decide +kernel
theorem dX3_countRoutes_43 : decode cX3_countRoutes 43 = .ok (.goto (-39), 3) := by decide +kernel
theorem dX3_countRoutes_46 : decode cX3_countRoutes 46 = .ok (.iload_n 1, 1) := by decide +kernel
theorem dX3_countRoutes_47 : decode cX3_countRoutes 47 = .ok (.ireturn, 1) := by decide +kernel
theorem dX3_countExcludingPairs_0 : decode cX3_countExcludingPairs 0 = .ok (.iconst 0, 1) := by decide +kernel
theorem dX3_countExcludingPairs_1 : decode cX3_countExcludingPairs 1 = .ok (.istore_n 1, 1) := by decide +kernel
theorem dX3_countExcludingPairs_2 : decode cX3_countExcludingPairs 2 = .ok (.iconst 0, 1) := by decide +kernel
theorem dX3_countExcludingPairs_3 : decode cX3_countExcludingPairs 3 = .ok (.istore_n 2, 1) := by decide +kernel
theorem dX3_countExcludingPairs_4 : decode cX3_countExcludingPairs 4 = .ok (.iload_n 2, 1) := by decide +kernel
theorem dX3_countExcludingPairs_5 : decode cX3_countExcludingPairs 5 = .ok (.aload_n 0, 1) := by decide +kernel
theorem dX3_countExcludingPairs_6 : decode cX3_countExcludingPairs 6 = .ok (.getfield 9, 3) := by decide +kernel
theorem dX3_countExcludingPairs_9 : decode cX3_countExcludingPairs 9 = .ok (.if_icmp .ge 34, 3) := by decide +kernel
theorem dX3_countExcludingPairs_12 : decode cX3_countExcludingPairs 12 = .ok (.iconst 0, 1) := by decide +kernel
theorem dX3_countExcludingPairs_13 : decode cX3_countExcludingPairs 13 = .ok (.istore_n 3, 1) := by decide +kernel
theorem dX3_countExcludingPairs_14 : decode cX3_countExcludingPairs 14 = .ok (.iload_n 3, 1) := by decide +kernel
theorem dX3_countExcludingPairs_15 : decode cX3_countExcludingPairs 15 = .ok (.iload_n 2, 1) := by decide +kernel
theorem dX3_countExcludingPairs_16 : decode cX3_countExcludingPairs 16 = .ok (.if_icmp .ge 21, 3) := by decide +kernel
theorem dX3_countExcludingPairs_19 : decode cX3_countExcludingPairs 19 = .ok (.aload_n 0, 1) := by decide +kernel
theorem dX3_countExcludingPairs_20 : decode cX3_countExcludingPairs 20 = .ok (.iload_n 2, 1) := by decide +kernel
theorem dX3_countExcludingPairs_21 : decode cX3_countExcludingPairs 21 = .ok (.iload_n 3, 1) := by decide +kernel
theorem dX3_countExcludingPairs_22 : decode cX3_countExcludingPairs 22 = .ok (.invokevirtual 87, 3) := by decide +kernel
theorem dX3_countExcludingPairs_25 : decode cX3_countExcludingPairs 25 = .ok (.ifCond .eq 6, 3) := by decide +kernel
theorem dX3_countExcludingPairs_28 : decode cX3_countExcludingPairs 28 = .ok (.iinc 1 1, 3) := by decide +kernel
theorem dX3_countExcludingPairs_31 : decode cX3_countExcludingPairs 31 = .ok (.iinc 3 1, 3) := by decide +kernel
theorem dX3_countExcludingPairs_34 : decode cX3_countExcludingPairs 34 = .ok (.goto (-20), 3) := by decide +kernel
theorem dX3_countExcludingPairs_37 : decode cX3_countExcludingPairs 37 = .ok (.iinc 2 1, 3) := by decide +kernel
theorem dX3_countExcludingPairs_40 : decode cX3_countExcludingPairs 40 = .ok (.goto (-36), 3) := by decide +kernel
theorem dX3_countExcludingPairs_43 : decode cX3_countExcludingPairs 43 = .ok (.iload_n 1, 1) := by decide +kernel
theorem dX3_countExcludingPairs_44 : decode cX3_countExcludingPairs 44 = .ok (.ireturn, 1) := by decide +kernel
theorem dX4_init_0 : decode cX4_init 0 = .ok (.aload_n 0, 1) := by decide +kernel
theorem dX4_init_1 : decode cX4_init 1 = .ok (.invokespecial 3, 3) := by decide +kernel
theorem dX4_init_4 : decode cX4_init 4 = .ok (.aload_n 0, 1) := by decide +kernel
theorem dX4_init_5 : decode cX4_init 5 = .ok (.new 9, 3) := by decide +kernel
theorem dX4_init_8 : decode cX4_init 8 = .ok (.dup, 1) := by decide +kernel
theorem dX4_init_9 : decode cX4_init 9 = .ok (.invokespecial 11, 3) := by decide +kernel
theorem dX4_init_12 : decode cX4_init 12 = .ok (.putfield 12, 3) := by decide +kernel
theorem dX4_init_15 : decode cX4_init 15 = .ok (.aload_n 0, 1) := by decide +kernel
theorem dX4_init_16 : decode cX4_init 16 = .ok (.new 18, 3) := by decide +kernel
theorem dX4_init_19 : decode cX4_init 19 = .ok (.dup, 1) := by decide +kernel
theorem dX4_init_20 : decode cX4_init 20 = .ok (.invokespecial 20, 3) := by decide +kernel
theorem dX4_init_23 : decode cX4_init 23 = .ok (.putfield 21, 3) := by decide +kernel
theorem dX4_init_26 : decode cX4_init 26 = .ok (.aload_n 0, 1) := by decide +kernel
theorem dX4_init_27 : decode cX4_init 27 = .ok (.iconst (-1), 1) := by decide +kernel
theorem dX4_init_28 : decode cX4_init 28 = .ok (.putfield 25, 3) := by decide +kernel
theorem dX4_init_31 : decode cX4_init 31 = .ok (.aload_n 0, 1) := by decide +kernel
theorem dX4_init_32 : decode cX4_init 32 = .ok (.iconst 0, 1) := by decide +kernel
theorem dX4_init_33 : decode cX4_init 33 = .ok (.putfield 29, 3) := by decide +kernel
theorem dX4_init_36 : decode cX4_init 36 = .ok (.return_, 1) := by decide +kernel
theorem dX4_copyFrom_0 : decode cX4_copyFrom 0 = .ok (.aload_n 0, 1) := by decide +kernel
theorem dX4_copyFrom_1 : decode cX4_copyFrom 1 = .ok (.getfield 12, 3) := by decide +kernel
theorem dX4_copyFrom_4 : decode cX4_copyFrom 4 = .ok (.aload_n 1, 1) := by decide +kernel
theorem dX4_copyFrom_5 : decode cX4_copyFrom 5 = .ok (.getfield 12, 3) := by decide +kernel
theorem dX4_copyFrom_8 : decode cX4_copyFrom 8 = .ok (.invokevirtual 32, 3) := by decide +kernel
theorem dX4_copyFrom_11 : decode cX4_copyFrom 11 = .ok (.aload_n 0, 1) := by decide +kernel
theorem dX4_copyFrom_12 : decode cX4_copyFrom 12 = .ok (.getfield 21, 3) := by decide +kernel
theorem dX4_copyFrom_15 : decode cX4_copyFrom 15 = .ok (.aload_n 1, 1) := by decide +kernel
theorem dX4_copyFrom_16 : decode cX4_copyFrom 16 = .ok (.getfield 21, 3) := by decide +kernel
theorem dX4_copyFrom_19 : decode cX4_copyFrom 19 = .ok (.invokevirtual 36, 3) := by decide +kernel
theorem dX4_copyFrom_22 : decode cX4_copyFrom 22 = .ok (.aload_n 0, 1) := by decide +kernel
theorem dX4_copyFrom_23 : decode cX4_copyFrom 23 = .ok (.aload_n 1, 1) := by decide +kernel
theorem dX4_copyFrom_24 : decode cX4_copyFrom 24 = .ok (.getfield 25, 3) := by decide +kernel
theorem dX4_copyFrom_27 : decode cX4_copyFrom 27 = .ok (.putfield 25, 3) := by decide +kernel
theorem dX4_copyFrom_30 : decode cX4_copyFrom 30 = .ok (.aload_n 0, 1) := by decide +kernel
theorem dX4_copyFrom_31 : decode cX4_copyFrom 31 = .ok (.aload_n 1, 1) := by decide +kernel
theorem dX4_copyFrom_32 : decode cX4_copyFrom 32 = .ok (.getfield 29, 3) := by decide +kernel
theorem dX4_copyFrom_35 : decode cX4_copyFrom 35 = .ok (.putfield 29, 3) := by decide +kernel
theorem dX4_copyFrom_38 : decode cX4_copyFrom 38 = .ok (.return_, 1) := by decide +kernel
theorem dX4_forgetBest_0 : decode cX4_forgetBest 0 = .ok (.aload_n 0, 1) := by decide +kernel
theorem dX4_forgetBest_1 : decode cX4_forgetBest 1 = .ok (.iconst (-1), 1) := by decide +kernel
theorem dX4_forgetBest_2 : decode cX4_forgetBest 2 = .ok (.putfield 25, 3) := by decide +kernel
theorem dX4_forgetBest_5 : decode cX4_forgetBest 5 = .ok (.return_, 1) := by decide +kernel
theorem dX4_forgetCuts_0 : decode cX4_forgetCuts 0 = .ok (.aload_n 0, 1) := by decide +kernel
theorem dX4_forgetCuts_1 : decode cX4_forgetCuts 1 = .ok (.getfield 21, 3) := by decide +kernel
theorem dX4_forgetCuts_4 : decode cX4_forgetCuts 4 = .ok (.iconst 0, 1) := by decide +kernel
theorem dX4_forgetCuts_5 : decode cX4_forgetCuts 5 = .ok (.putfield 39, 3) := by decide +kernel
theorem dX4_forgetCuts_8 : decode cX4_forgetCuts 8 = .ok (.aload_n 0, 1) := by decide +kernel
theorem dX4_forgetCuts_9 : decode cX4_forgetCuts 9 = .ok (.invokevirtual 42, 3) := by decide +kernel
theorem dX4_forgetCuts_12 : decode cX4_forgetCuts 12 = .ok (.return_, 1) := by decide +kernel
theorem dX4_guessOf_0 : decode cX4_guessOf 0 = .ok (.aload_n 0, 1) := by decide +kernel
theorem dX4_guessOf_1 : decode cX4_guessOf 1 = .ok (.getfield 12, 3) := by decide +kernel
theorem dX4_guessOf_4 : decode cX4_guessOf 4 = .ok (.iload_n 1, 1) := by decide +kernel
theorem dX4_guessOf_5 : decode cX4_guessOf 5 = .ok (.invokevirtual 45, 3) := by decide +kernel
theorem dX4_guessOf_8 : decode cX4_guessOf 8 = .ok (.aload_n 0, 1) := by decide +kernel
theorem dX4_guessOf_9 : decode cX4_guessOf 9 = .ok (.getfield 21, 3) := by decide +kernel
theorem dX4_guessOf_12 : decode cX4_guessOf 12 = .ok (.iload_n 1, 1) := by decide +kernel
theorem dX4_guessOf_13 : decode cX4_guessOf 13 = .ok (.invokevirtual 49, 3) := by decide +kernel
theorem dX4_guessOf_16 : decode cX4_guessOf 16 = .ok (.iadd, 1) := by decide +kernel
theorem dX4_guessOf_17 : decode cX4_guessOf 17 = .ok (.ireturn, 1) := by decide +kernel
theorem dX4_isForMaster_0 : decode cX4_isForMaster 0 = .ok (.aload_n 0, 1) := by decide +kernel
theorem dX4_isForMaster_1 : decode cX4_isForMaster 1 = .ok (.getfield 12, 3) := by decide +kernel
theorem dX4_isForMaster_4 : decode cX4_isForMaster 4 = .ok (.iload_n 1, 1) := by decide +kernel
theorem dX4_isForMaster_5 : decode cX4_isForMaster 5 = .ok (.invokevirtual 52, 3) := by decide +kernel
theorem dX4_isForMaster_8 : decode cX4_isForMaster 8 = .ok (.ifCond .eq 18, 3) := by decide +kernel
theorem dX4_isForMaster_11 : decode cX4_isForMaster 11 = .ok (.aload_n 0, 1) := by decide +kernel
theorem dX4_isForMaster_12 : decode cX4_isForMaster 12 = .ok (.getfield 21, 3) := by decide +kernel
theorem dX4_isForMaster_15 : decode cX4_isForMaster 15 = .ok (.iload_n 1, 1) := by decide +kernel
theorem dX4_isForMaster_16 : decode cX4_isForMaster 16 = .ok (.invokevirtual 56, 3) := by decide +kernel
theorem dX4_isForMaster_19 : decode cX4_isForMaster 19 = .ok (.ifCond .ne 7, 3) := by decide +kernel
theorem dX4_isForMaster_22 : decode cX4_isForMaster 22 = .ok (.iconst 1, 1) := by decide +kernel
theorem dX4_isForMaster_23 : decode cX4_isForMaster 23 = .ok (.goto 4, 3) := by decide +kernel
theorem dX4_isForMaster_26 : decode cX4_isForMaster 26 = .ok (.iconst 0, 1) := by decide +kernel
theorem dX4_isForMaster_27 : decode cX4_isForMaster 27 = .ok (.ireturn, 1) := by decide +kernel
theorem dX4_findMasterPlan_0 : decode cX4_findMasterPlan 0 = .ok (.iconst (-1), 1) := by decide +kernel
theorem dX4_findMasterPlan_1 : decode cX4_findMasterPlan 1 = .ok (.istore_n 1, 1) := by decide +kernel
theorem dX4_findMasterPlan_2 : decode cX4_findMasterPlan 2 = .ok (.iconst 0, 1) := by decide +kernel
theorem dX4_findMasterPlan_3 : decode cX4_findMasterPlan 3 = .ok (.istore_n 2, 1) := by decide +kernel
theorem dX4_findMasterPlan_4 : decode cX4_findMasterPlan 4 = .ok (.iconst 0, 1) := by decide +kernel
theorem dX4_findMasterPlan_5 : decode cX4_findMasterPlan 5 = .ok (.istore_n 3, 1) := by decide +kernel
theorem dX4_findMasterPlan_6 : decode cX4_findMasterPlan 6 = .ok (.iload_n 3, 1) := by decide +kernel
theorem dX4_findMasterPlan_7 : decode cX4_findMasterPlan 7 = .ok (.aload_n 0, 1) := by decide +kernel
theorem dX4_findMasterPlan_8 : decode cX4_findMasterPlan 8 = .ok (.getfield 12, 3) := by decide +kernel
theorem dX4_findMasterPlan_11 : decode cX4_findMasterPlan 11 = .ok (.invokevirtual 59, 3) := by decide +kernel
theorem dX4_findMasterPlan_14 : decode cX4_findMasterPlan 14 = .ok (.if_icmp .ge 40, 3) := by decide +kernel
theorem dX4_findMasterPlan_17 : decode cX4_findMasterPlan 17 = .ok (.aload_n 0, 1) := by decide +kernel
theorem dX4_findMasterPlan_18 : decode cX4_findMasterPlan 18 = .ok (.iload_n 3, 1) := by decide +kernel
theorem dX4_findMasterPlan_19 : decode cX4_findMasterPlan 19 = .ok (.invokevirtual 63, 3) := by decide +kernel
theorem dX4_findMasterPlan_22 : decode cX4_findMasterPlan 22 = .ok (.ifCond .eq 26, 3) := by decide +kernel
theorem dX4_findMasterPlan_25 : decode cX4_findMasterPlan 25 = .ok (.aload_n 0, 1) := by decide +kernel
theorem dX4_findMasterPlan_26 : decode cX4_findMasterPlan 26 = .ok (.iload_n 3, 1) := by decide +kernel
theorem dX4_findMasterPlan_27 : decode cX4_findMasterPlan 27 = .ok (.invokevirtual 66, 3) := by decide +kernel
theorem dX4_findMasterPlan_30 : decode cX4_findMasterPlan 30 = .ok (.istore 4, 2) := by decide +kernel
theorem dX4_findMasterPlan_32 : decode cX4_findMasterPlan 32 = .ok (.iload_n 1, 1) := by decide +kernel
theorem dX4_findMasterPlan_33 : decode cX4_findMasterPlan 33 = .ok (.iconst (-1), 1) := by decide +kernel
theorem dX4_findMasterPlan_34 : decode cX4_findMasterPlan 34 = .ok (.if_icmp .eq 9, 3) := by decide +kernel
theorem dX4_findMasterPlan_37 : decode cX4_findMasterPlan 37 = .ok (.iload 4, 2) := by decide +kernel
theorem dX4_findMasterPlan_39 : decode cX4_findMasterPlan 39 = .ok (.iload_n 2, 1) := by decide +kernel
theorem dX4_findMasterPlan_40 : decode cX4_findMasterPlan 40 = .ok (.if_icmp .ge 8, 3) := by decide +kernel
theorem dX4_findMasterPlan_43 : decode cX4_findMasterPlan 43 = .ok (.iload_n 3, 1) := by decide +kernel
theorem dX4_findMasterPlan_44 : decode cX4_findMasterPlan 44 = .ok (.istore_n 1, 1) := by decide +kernel
theorem dX4_findMasterPlan_45 : decode cX4_findMasterPlan 45 = .ok (.iload 4, 2) := by decide +kernel
theorem dX4_findMasterPlan_47 : decode cX4_findMasterPlan 47 = .ok (.istore_n 2, 1) := by decide +kernel
theorem dX4_findMasterPlan_48 : decode cX4_findMasterPlan 48 = .ok (.iinc 3 1, 3) := by decide +kernel
theorem dX4_findMasterPlan_51 : decode cX4_findMasterPlan 51 = .ok (.goto (-45), 3) := by decide +kernel
theorem dX4_findMasterPlan_54 : decode cX4_findMasterPlan 54 = .ok (.iload_n 1, 1) := by decide +kernel
theorem dX4_findMasterPlan_55 : decode cX4_findMasterPlan 55 = .ok (.ireturn, 1) := by decide +kernel
theorem dX4_makeStep_0 : decode cX4_makeStep 0 = .ok (.aload_n 0, 1) := by decide +kernel
theorem dX4_makeStep_1 : decode cX4_makeStep 1 = .ok (.getfield 12, 3) := by decide +kernel
theorem dX4_makeStep_4 : decode cX4_makeStep 4 = .ok (.getfield 69, 3) := by decide +kernel
theorem dX4_makeStep_7 : decode cX4_makeStep 7 = .ok (.ifCond .ne 6, 3) := by decide +kernel
theorem dX4_makeStep_10 : decode cX4_makeStep 10 = .ok (.bipush (-4), 2) := by decide +kernel
theorem dX4_makeStep_12 : decode cX4_makeStep 12 = .ok (.ireturn, 1) := by decide +kernel
theorem dX4_makeStep_13 : decode cX4_makeStep 13 = .ok (.aload_n 0, 1) := by decide +kernel
theorem dX4_makeStep_14 : decode cX4_makeStep 14 = .ok (.invokevirtual 72, 3) := by decide +kernel
theorem dX4_makeStep_17 : decode cX4_makeStep 17 = .ok (.istore_n 2, 1) := by decide +kernel
theorem dX4_makeStep_18 : decode cX4_makeStep 18 = .ok (.iload_n 2, 1) := by decide +kernel
theorem dX4_makeStep_19 : decode cX4_makeStep 19 = .ok (.iconst (-1), 1) := by decide +kernel
theorem dX4_makeStep_20 : decode cX4_makeStep 20 = .ok (.if_icmp .ne 6, 3) := by decide +kernel
theorem dX4_makeStep_23 : decode cX4_makeStep 23 = .ok (.bipush (-4), 2) := by decide +kernel
theorem dX4_makeStep_25 : decode cX4_makeStep 25 = .ok (.ireturn, 1) := by decide +kernel
theorem dX4_makeStep_26 : decode cX4_makeStep 26 = .ok (.aload_n 0, 1) := by decide +kernel
theorem dX4_makeStep_27 : decode cX4_makeStep 27 = .ok (.getfield 12, 3) := by decide +kernel
theorem dX4_makeStep_30 : decode cX4_makeStep 30 = .ok (.iload_n 2, 1) := by decide +kernel
theorem dX4_makeStep_31 : decode cX4_makeStep 31 = .ok (.invokevirtual 75, 3) := by decide +kernel
theorem dX4_makeStep_34 : decode cX4_makeStep 34 = .ok (.istore_n 3, 1) := by decide +kernel
theorem dX4_makeStep_35 : decode cX4_makeStep 35 = .ok (.iload_n 3, 1) := by decide +kernel
theorem dX4_makeStep_36 : decode cX4_makeStep 36 = .ok (.iconst (-1), 1) := by decide +kernel
theorem dX4_makeStep_37 : decode cX4_makeStep 37 = .ok (.if_icmp .ne 23, 3) := by decide +kernel
theorem dX4_makeStep_40 : decode cX4_makeStep 40 = .ok (.aload_n 0, 1) := by decide +kernel
theorem dX4_makeStep_41 : decode cX4_makeStep 41 = .ok (.getfield 12, 3) := by decide +kernel
theorem dX4_makeStep_44 : decode cX4_makeStep 44 = .ok (.iload_n 2, 1) := by decide +kernel
theorem dX4_makeStep_45 : decode cX4_makeStep 45 = .ok (.invokevirtual 78, 3) := by decide +kernel
theorem dX4_makeStep_48 : decode cX4_makeStep 48 = .ok (.aload_n 0, 1) := by decide +kernel
theorem dX4_makeStep_49 : decode cX4_makeStep 49 = .ok (.iload_n 2, 1) := by decide +kernel
theorem dX4_makeStep_50 : decode cX4_makeStep 50 = .ok (.invokevirtual 66, 3) := by decide +kernel
theorem dX4_makeStep_53 : decode cX4_makeStep 53 = .ok (.if_icmp .ne 7, 3) := by decide +kernel
theorem dX4_makeStep_56 : decode cX4_makeStep 56 = .ok (.iconst 1, 1) := by decide +kernel
theorem dX4_makeStep_57 : decode cX4_makeStep 57 = .ok (.goto 4, 3) := by decide +kernel
theorem dX4_makeStep_60 : decode cX4_makeStep 60 = .ok (.iconst 0, 1) := by decide +kernel
theorem dX4_makeStep_61 : decode cX4_makeStep 61 = .ok (.istore 4, 2) := by decide +kernel
theorem dX4_makeStep_63 : decode cX4_makeStep 63 = .ok (.iload 4, 2) := by decide +kernel
theorem dX4_makeStep_65 : decode cX4_makeStep 65 = .ok (.ifCond .ne 16, 3) := by decide +kernel
theorem dX4_makeStep_68 : decode cX4_makeStep 68 = .ok (.aload_n 0, 1) := by decide +kernel
theorem dX4_makeStep_69 : decode cX4_makeStep 69 = .ok (.getfield 21, 3) := by decide +kernel
theorem dX4_makeStep_72 : decode cX4_makeStep 72 = .ok (.invokevirtual 81, 3) := by decide +kernel
theorem dX4_makeStep_75 : decode cX4_makeStep 75 = .ok (.ifCond .eq 6, 3) := by decide +kernel
theorem dX4_makeStep_78 : decode cX4_makeStep 78 = .ok (.bipush (-3), 2) := by decide +kernel
theorem dX4_makeStep_80 : decode cX4_makeStep 80 = .ok (.ireturn, 1) := by decide +kernel
theorem dX4_makeStep_81 : decode cX4_makeStep 81 = .ok (.aload_n 0, 1) := by decide +kernel
theorem dX4_makeStep_82 : decode cX4_makeStep 82 = .ok (.dup, 1) := by decide +kernel
theorem dX4_makeStep_83 : decode cX4_makeStep 83 = .ok (.getfield 29, 3) := by decide +kernel
theorem dX4_makeStep_86 : decode cX4_makeStep 86 = .ok (.iconst 1, 1) := by decide +kernel
theorem dX4_makeStep_87 : decode cX4_makeStep 87 = .ok (.iadd, 1) := by decide +kernel
theorem dX4_makeStep_88 : decode cX4_makeStep 88 = .ok (.putfield 29, 3) := by decide +kernel
theorem dX4_makeStep_91 : decode cX4_makeStep 91 = .ok (.iload_n 3, 1) := by decide +kernel
theorem dX4_makeStep_92 : decode cX4_makeStep 92 = .ok (.iconst (-1), 1) := by decide +kernel
theorem dX4_makeStep_93 : decode cX4_makeStep 93 = .ok (.if_icmp .eq 18, 3) := by decide +kernel
theorem dX4_makeStep_96 : decode cX4_makeStep 96 = .ok (.aload_n 0, 1) := by decide +kernel
theorem dX4_makeStep_97 : decode cX4_makeStep 97 = .ok (.getfield 21, 3) := by decide +kernel
theorem dX4_makeStep_100 : decode cX4_makeStep 100 = .ok (.aload_n 0, 1) := by decide +kernel
theorem dX4_makeStep_101 : decode cX4_makeStep 101 = .ok (.getfield 12, 3) := by decide +kernel
theorem dX4_makeStep_104 : decode cX4_makeStep 104 = .ok (.iload_n 3, 1) := by decide +kernel
theorem dX4_makeStep_105 : decode cX4_makeStep 105 = .ok (.invokevirtual 85, 3) := by decide +kernel
theorem dX4_makeStep_108 : decode cX4_makeStep 108 = .ok (.pop, 1) := by decide +kernel
theorem dX4_makeStep_109 : decode cX4_makeStep 109 = .ok (.iconst 0, 1) := by decide +kernel
theorem dX4_makeStep_110 : decode cX4_makeStep 110 = .ok (.ireturn, 1) := by decide +kernel
theorem dX4_makeStep_111 : decode cX4_makeStep 111 = .ok (.aload_n 0, 1) := by decide +kernel
theorem dX4_makeStep_112 : decode cX4_makeStep 112 = .ok (.iload_n 2, 1) := by decide +kernel
theorem dX4_makeStep_113 : decode cX4_makeStep 113 = .ok (.invokevirtual 89, 3) := by decide +kernel
theorem dX4_makeStep_116 : decode cX4_makeStep 116 = .ok (.iload 4, 2) := by decide +kernel
theorem dX4_makeStep_118 : decode cX4_makeStep 118 = .ok (.ifCond .eq 5, 3) := by decide +kernel
theorem dX4_makeStep_121 : decode cX4_makeStep 121 = .ok (.iconst 2, 1) := by decide +kernel
theorem dX4_makeStep_122 : decode cX4_makeStep 122 = .ok (.ireturn, 1) := by decide +kernel
theorem dX4_makeStep_123 : decode cX4_makeStep 123 = .ok (.iconst 0, 1) := by decide +kernel
theorem dX4_makeStep_124 : decode cX4_makeStep 124 = .ok (.istore 5, 2) := by decide +kernel
theorem dX4_makeStep_126 : decode cX4_makeStep 126 = .ok (.iload 5, 2) := by decide +kernel
theorem dX4_makeStep_128 : decode cX4_makeStep 128 = .ok (.aload_n 0, 1) := by decide +kernel
theorem dX4_makeStep_129 : decode cX4_makeStep 129 = .ok (.getfield 12, 3) := by decide +kernel
theorem dX4_makeStep_132 : decode cX4_makeStep 132 = .ok (.getfield 69, 3) := by decide +kernel
theorem dX4_makeStep_135 : decode cX4_makeStep 135 = .ok (.if_icmp .ge 23, 3) := by decide +kernel
theorem dX4_makeStep_138 : decode cX4_makeStep 138 = .ok (.aload_n 1, 1) := by decide +kernel
theorem dX4_makeStep_139 : decode cX4_makeStep 139 = .ok (.iload 5, 2) := by decide +kernel
theorem dX4_makeStep_141 : decode cX4_makeStep 141 = .ok (.aload_n 0, 1) := by decide +kernel
theorem dX4_makeStep_142 : decode cX4_makeStep 142 = .ok (.getfield 12, 3) := by decide +kernel
theorem dX4_makeStep_145 : decode cX4_makeStep 145 = .ok (.iload_n 2, 1) := by decide +kernel
theorem dX4_makeStep_146 : decode cX4_makeStep 146 = .ok (.iload 5, 2) := by decide +kernel
theorem dX4_makeStep_148 : decode cX4_makeStep 148 = .ok (.invokevirtual 93, 3) := by decide +kernel
theorem dX4_makeStep_151 : decode cX4_makeStep 151 = .ok (.iastore, 1) := by decide +kernel
theorem dX4_makeStep_152 : decode cX4_makeStep 152 = .ok (.iinc 5 1, 3) := by decide +kernel
theorem dX4_makeStep_155 : decode cX4_makeStep 155 = .ok (.goto (-29), 3) := by decide +kernel
theorem dX4_makeStep_158 : decode cX4_makeStep 158 = .ok (.aload_n 0, 1) := by decide +kernel
theorem dX4_makeStep_159 : decode cX4_makeStep 159 = .ok (.getfield 21, 3) := by decide +kernel
theorem dX4_makeStep_162 : decode cX4_makeStep 162 = .ok (.aload_n 0, 1) := by decide +kernel
theorem dX4_makeStep_163 : decode cX4_makeStep 163 = .ok (.getfield 12, 3) := by decide +kernel
theorem dX4_makeStep_166 : decode cX4_makeStep 166 = .ok (.aload_n 1, 1) := by decide +kernel
theorem dX4_makeStep_167 : decode cX4_makeStep 167 = .ok (.invokevirtual 97, 3) := by decide +kernel
theorem dX4_makeStep_170 : decode cX4_makeStep 170 = .ok (.pop, 1) := by decide +kernel
theorem dX4_makeStep_171 : decode cX4_makeStep 171 = .ok (.iconst 1, 1) := by decide +kernel
theorem dX4_makeStep_172 : decode cX4_makeStep 172 = .ok (.ireturn, 1) := by decide +kernel
theorem dX4_improveBest_0 : decode cX4_improveBest 0 = .ok (.aload_n 0, 1) := by decide +kernel
theorem dX4_improveBest_1 : decode cX4_improveBest 1 = .ok (.getfield 25, 3) := by decide +kernel
theorem dX4_improveBest_4 : decode cX4_improveBest 4 = .ok (.iconst (-1), 1) := by decide +kernel
theorem dX4_improveBest_5 : decode cX4_improveBest 5 = .ok (.if_icmp .eq 25, 3) := by decide +kernel
theorem dX4_improveBest_8 : decode cX4_improveBest 8 = .ok (.aload_n 0, 1) := by decide +kernel
theorem dX4_improveBest_9 : decode cX4_improveBest 9 = .ok (.getfield 12, 3) := by decide +kernel
theorem dX4_improveBest_12 : decode cX4_improveBest 12 = .ok (.iload_n 1, 1) := by decide +kernel
theorem dX4_improveBest_13 : decode cX4_improveBest 13 = .ok (.invokevirtual 78, 3) := by decide +kernel
theorem dX4_improveBest_16 : decode cX4_improveBest 16 = .ok (.aload_n 0, 1) := by decide +kernel
theorem dX4_improveBest_17 : decode cX4_improveBest 17 = .ok (.getfield 12, 3) := by decide +kernel
theorem dX4_improveBest_20 : decode cX4_improveBest 20 = .ok (.aload_n 0, 1) := by decide +kernel
theorem dX4_improveBest_21 : decode cX4_improveBest 21 = .ok (.getfield 25, 3) := by decide +kernel
theorem dX4_improveBest_24 : decode cX4_improveBest 24 = .ok (.invokevirtual 78, 3) := by decide +kernel
theorem dX4_improveBest_27 : decode cX4_improveBest 27 = .ok (.if_icmp .ge 8, 3) := by decide +kernel
theorem dX4_improveBest_30 : decode cX4_improveBest 30 = .ok (.aload_n 0, 1) := by decide +kernel
theorem dX4_improveBest_31 : decode cX4_improveBest 31 = .ok (.iload_n 1, 1) := by decide +kernel
theorem dX4_improveBest_32 : decode cX4_improveBest 32 = .ok (.putfield 25, 3) := by decide +kernel
theorem dX4_improveBest_35 : decode cX4_improveBest 35 = .ok (.return_, 1) := by decide +kernel
theorem dX4_countPlansThatBreak_0 : decode cX4_countPlansThatBreak 0 = .ok (.iconst 0, 1) := by decide +kernel
theorem dX4_countPlansThatBreak_1 : decode cX4_countPlansThatBreak 1 = .ok (.istore_n 2, 1) := by decide +kernel
theorem dX4_countPlansThatBreak_2 : decode cX4_countPlansThatBreak 2 = .ok (.iconst 0, 1) := by decide +kernel
theorem dX4_countPlansThatBreak_3 : decode cX4_countPlansThatBreak 3 = .ok (.istore_n 3, 1) := by decide +kernel
theorem dX4_countPlansThatBreak_4 : decode cX4_countPlansThatBreak 4 = .ok (.iload_n 3, 1) := by decide +kernel
theorem dX4_countPlansThatBreak_5 : decode cX4_countPlansThatBreak 5 = .ok (.aload_n 0, 1) := by decide +kernel
theorem dX4_countPlansThatBreak_6 : decode cX4_countPlansThatBreak 6 = .ok (.getfield 12, 3) := by decide +kernel
theorem dX4_countPlansThatBreak_9 : decode cX4_countPlansThatBreak 9 = .ok (.invokevirtual 59, 3) := by decide +kernel
theorem dX4_countPlansThatBreak_12 : decode cX4_countPlansThatBreak 12 = .ok (.if_icmp .ge 32, 3) := by decide +kernel
theorem dX4_countPlansThatBreak_15 : decode cX4_countPlansThatBreak 15 = .ok (.aload_n 0, 1) := by decide +kernel
theorem dX4_countPlansThatBreak_16 : decode cX4_countPlansThatBreak 16 = .ok (.getfield 12, 3) := by decide +kernel
theorem dX4_countPlansThatBreak_19 : decode cX4_countPlansThatBreak 19 = .ok (.iload_n 3, 1) := by decide +kernel
theorem dX4_countPlansThatBreak_20 : decode cX4_countPlansThatBreak 20 = .ok (.invokevirtual 101, 3) := by decide +kernel
theorem dX4_countPlansThatBreak_23 : decode cX4_countPlansThatBreak 23 = .ok (.ifCond .eq 15, 3) := by decide +kernel
theorem dX4_countPlansThatBreak_26 : decode cX4_countPlansThatBreak 26 = .ok (.aload_n 0, 1) := by decide +kernel
theorem dX4_countPlansThatBreak_27 : decode cX4_countPlansThatBreak 27 = .ok (.iload_n 1, 1) := by decide +kernel
theorem dX4_countPlansThatBreak_28 : decode cX4_countPlansThatBreak 28 = .ok (.iload_n 3, 1) := by decide +kernel
theorem dX4_countPlansThatBreak_29 : decode cX4_countPlansThatBreak 29 = .ok (.invokevirtual 104, 3) := by decide +kernel
theorem dX4_countPlansThatBreak_32 : decode cX4_countPlansThatBreak 32 = .ok (.ifCond .eq 6, 3) := by decide +kernel
theorem dX4_countPlansThatBreak_35 : decode cX4_countPlansThatBreak 35 = .ok (.iinc 2 1, 3) := by decide +kernel
theorem dX4_countPlansThatBreak_38 : decode cX4_countPlansThatBreak 38 = .ok (.iinc 3 1, 3) := by decide +kernel
theorem dX4_countPlansThatBreak_41 : decode cX4_countPlansThatBreak 41 = .ok (.goto (-37), 3) := by decide +kernel
theorem dX4_countPlansThatBreak_44 : decode cX4_countPlansThatBreak 44 = .ok (.iload_n 2, 1) := by decide +kernel
theorem dX4_countPlansThatBreak_45 : decode cX4_countPlansThatBreak 45 = .ok (.ireturn, 1) := by decide +kernel
theorem dX4_isBroken_0 : decode cX4_isBroken 0 = .ok (.aload_n 0, 1) := by decide +kernel
theorem dX4_isBroken_1 : decode cX4_isBroken 1 = .ok (.getfield 21, 3) := by decide +kernel
theorem dX4_isBroken_4 : decode cX4_isBroken 4 = .ok (.iload_n 1, 1) := by decide +kernel
theorem dX4_isBroken_5 : decode cX4_isBroken 5 = .ok (.invokevirtual 108, 3) := by decide +kernel
theorem dX4_isBroken_8 : decode cX4_isBroken 8 = .ok (.ifCond .eq 21, 3) := by decide +kernel
theorem dX4_isBroken_11 : decode cX4_isBroken 11 = .ok (.aload_n 0, 1) := by decide +kernel
theorem dX4_isBroken_12 : decode cX4_isBroken 12 = .ok (.getfield 21, 3) := by decide +kernel
theorem dX4_isBroken_15 : decode cX4_isBroken 15 = .ok (.iload_n 1, 1) := by decide +kernel
theorem dX4_isBroken_16 : decode cX4_isBroken 16 = .ok (.iload_n 2, 1) := by decide +kernel
theorem dX4_isBroken_17 : decode cX4_isBroken 17 = .ok (.invokevirtual 111, 3) := by decide +kernel
theorem dX4_isBroken_20 : decode cX4_isBroken 20 = .ok (.ifCond .ne 7, 3) := by decide +kernel
theorem dX4_isBroken_23 : decode cX4_isBroken 23 = .ok (.iconst 1, 1) := by decide +kernel
theorem dX4_isBroken_24 : decode cX4_isBroken 24 = .ok (.goto 4, 3) := by decide +kernel
theorem dX4_isBroken_27 : decode cX4_isBroken 27 = .ok (.iconst 0, 1) := by decide +kernel
theorem dX4_isBroken_28 : decode cX4_isBroken 28 = .ok (.ireturn, 1) := by decide +kernel
theorem dX4_isBroken_29 : decode cX4_isBroken 29 = .ok (.aload_n 0, 1) := by decide +kernel
theorem dX4_isBroken_30 : decode cX4_isBroken 30 = .ok (.getfield 21, 3) := by decide +kernel
theorem dX4_isBroken_33 : decode cX4_isBroken 33 = .ok (.iload_n 1, 1) := by decide +kernel
theorem dX4_isBroken_34 : decode cX4_isBroken 34 = .ok (.iload_n 2, 1) := by decide +kernel
theorem dX4_isBroken_35 : decode cX4_isBroken 35 = .ok (.invokevirtual 114, 3) := by decide +kernel
theorem dX4_isBroken_38 : decode cX4_isBroken 38 = .ok (.aload_n 0, 1) := by decide +kernel
theorem dX4_isBroken_39 : decode cX4_isBroken 39 = .ok (.getfield 12, 3) := by decide +kernel
theorem dX4_isBroken_42 : decode cX4_isBroken 42 = .ok (.iload_n 2, 1) := by decide +kernel
theorem dX4_isBroken_43 : decode cX4_isBroken 43 = .ok (.invokevirtual 117, 3) := by decide +kernel
theorem dX4_isBroken_46 : decode cX4_isBroken 46 = .ok (.if_icmp .le 7, 3) := by decide +kernel
theorem dX4_isBroken_49 : decode cX4_isBroken 49 = .ok (.iconst 1, 1) := by decide +kernel
theorem dX4_isBroken_50 : decode cX4_isBroken 50 = .ok (.goto 4, 3) := by decide +kernel
theorem dX4_isBroken_53 : decode cX4_isBroken 53 = .ok (.iconst 0, 1) := by decide +kernel
theorem dX4_isBroken_54 : decode cX4_isBroken 54 = .ok (.ireturn, 1) := by decide +kernel
theorem dX4_countPlansThatAreTight_0 : decode cX4_countPlansThatAreTight 0 = .ok (.iconst 0, 1) := by decide +kernel
theorem dX4_countPlansThatAreTight_1 : decode cX4_countPlansThatAreTight 1 = .ok (.istore_n 2, 1) := by decide +kernel
theorem dX4_countPlansThatAreTight_2 : decode cX4_countPlansThatAreTight 2 = .ok (.iconst 0, 1) := by decide +kernel
theorem dX4_countPlansThatAreTight_3 : decode cX4_countPlansThatAreTight 3 = .ok (.istore_n 3, 1) := by decide +kernel
theorem dX4_countPlansThatAreTight_4 : decode cX4_countPlansThatAreTight 4 = .ok (.iload_n 3, 1) := by decide +kernel
theorem dX4_countPlansThatAreTight_5 : decode cX4_countPlansThatAreTight 5 = .ok (.aload_n 0, 1) := by decide +kernel
theorem dX4_countPlansThatAreTight_6 : decode cX4_countPlansThatAreTight 6 = .ok (.getfield 12, 3) := by decide +kernel
theorem dX4_countPlansThatAreTight_9 : decode cX4_countPlansThatAreTight 9 = .ok (.invokevirtual 59, 3) := by decide +kernel
theorem dX4_countPlansThatAreTight_12 : decode cX4_countPlansThatAreTight 12 = .ok (.if_icmp .ge 32, 3) := by decide +kernel
theorem dX4_countPlansThatAreTight_15 : decode cX4_countPlansThatAreTight 15 = .ok (.aload_n 0, 1) := by decide +kernel
theorem dX4_countPlansThatAreTight_16 : decode cX4_countPlansThatAreTight 16 = .ok (.getfield 12, 3) := by decide +kernel
theorem dX4_countPlansThatAreTight_19 : decode cX4_countPlansThatAreTight 19 = .ok (.iload_n 3, 1) := by decide +kernel
theorem dX4_countPlansThatAreTight_20 : decode cX4_countPlansThatAreTight 20 = .ok (.invokevirtual 101, 3) := by decide +kernel
theorem dX4_countPlansThatAreTight_23 : decode cX4_countPlansThatAreTight 23 = .ok (.ifCond .eq 15, 3) := by decide +kernel
theorem dX4_countPlansThatAreTight_26 : decode cX4_countPlansThatAreTight 26 = .ok (.aload_n 0, 1) := by decide +kernel
theorem dX4_countPlansThatAreTight_27 : decode cX4_countPlansThatAreTight 27 = .ok (.iload_n 1, 1) := by decide +kernel
theorem dX4_countPlansThatAreTight_28 : decode cX4_countPlansThatAreTight 28 = .ok (.iload_n 3, 1) := by decide +kernel
theorem dX4_countPlansThatAreTight_29 : decode cX4_countPlansThatAreTight 29 = .ok (.invokevirtual 120, 3) := by decide +kernel
theorem dX4_countPlansThatAreTight_32 : decode cX4_countPlansThatAreTight 32 = .ok (.ifCond .eq 6, 3) := by decide +kernel
theorem dX4_countPlansThatAreTight_35 : decode cX4_countPlansThatAreTight 35 = .ok (.iinc 2 1, 3) := by decide +kernel
theorem dX4_countPlansThatAreTight_38 : decode cX4_countPlansThatAreTight 38 = .ok (.iinc 3 1, 3) := by decide +kernel
theorem dX4_countPlansThatAreTight_41 : decode cX4_countPlansThatAreTight 41 = .ok (.goto (-37), 3) := by decide +kernel
theorem dX4_countPlansThatAreTight_44 : decode cX4_countPlansThatAreTight 44 = .ok (.iload_n 2, 1) := by decide +kernel
theorem dX4_countPlansThatAreTight_45 : decode cX4_countPlansThatAreTight 45 = .ok (.ireturn, 1) := by decide +kernel
theorem dX4_isTight_0 : decode cX4_isTight 0 = .ok (.aload_n 0, 1) := by decide +kernel
theorem dX4_isTight_1 : decode cX4_isTight 1 = .ok (.getfield 21, 3) := by decide +kernel
theorem dX4_isTight_4 : decode cX4_isTight 4 = .ok (.iload_n 1, 1) := by decide +kernel
theorem dX4_isTight_5 : decode cX4_isTight 5 = .ok (.invokevirtual 108, 3) := by decide +kernel
theorem dX4_isTight_8 : decode cX4_isTight 8 = .ok (.ifCond .eq 22, 3) := by decide +kernel
theorem dX4_isTight_11 : decode cX4_isTight 11 = .ok (.aload_n 0, 1) := by decide +kernel
theorem dX4_isTight_12 : decode cX4_isTight 12 = .ok (.getfield 21, 3) := by decide +kernel
theorem dX4_isTight_15 : decode cX4_isTight 15 = .ok (.iload_n 1, 1) := by decide +kernel
theorem dX4_isTight_16 : decode cX4_isTight 16 = .ok (.iload_n 2, 1) := by decide +kernel
theorem dX4_isTight_17 : decode cX4_isTight 17 = .ok (.invokevirtual 111, 3) := by decide +kernel
theorem dX4_isTight_20 : decode cX4_isTight 20 = .ok (.iconst 1, 1) := by decide +kernel
theorem dX4_isTight_21 : decode cX4_isTight 21 = .ok (.if_icmp .ne 7, 3) := by decide +kernel
theorem dX4_isTight_24 : decode cX4_isTight 24 = .ok (.iconst 1, 1) := by decide +kernel
theorem dX4_isTight_25 : decode cX4_isTight 25 = .ok (.goto 4, 3) := by decide +kernel
theorem dX4_isTight_28 : decode cX4_isTight 28 = .ok (.iconst 0, 1) := by decide +kernel
theorem dX4_isTight_29 : decode cX4_isTight 29 = .ok (.ireturn, 1) := by decide +kernel
theorem dX4_isTight_30 : decode cX4_isTight 30 = .ok (.aload_n 0, 1) := by decide +kernel
theorem dX4_isTight_31 : decode cX4_isTight 31 = .ok (.getfield 21, 3) := by decide +kernel
theorem dX4_isTight_34 : decode cX4_isTight 34 = .ok (.iload_n 1, 1) := by decide +kernel
theorem dX4_isTight_35 : decode cX4_isTight 35 = .ok (.iload_n 2, 1) := by decide +kernel
theorem dX4_isTight_36 : decode cX4_isTight 36 = .ok (.invokevirtual 114, 3) := by decide +kernel
theorem dX4_isTight_39 : decode cX4_isTight 39 = .ok (.aload_n 0, 1) := by decide +kernel
theorem dX4_isTight_40 : decode cX4_isTight 40 = .ok (.getfield 12, 3) := by decide +kernel
theorem dX4_isTight_43 : decode cX4_isTight 43 = .ok (.iload_n 2, 1) := by decide +kernel
theorem dX4_isTight_44 : decode cX4_isTight 44 = .ok (.invokevirtual 117, 3) := by decide +kernel
theorem dX4_isTight_47 : decode cX4_isTight 47 = .ok (.if_icmp .ne 7, 3) := by decide +kernel
theorem dX4_isTight_50 : decode cX4_isTight 50 = .ok (.iconst 1, 1) := by decide +kernel
theorem dX4_isTight_51 : decode cX4_isTight 51 = .ok (.goto 4, 3) := by decide +kernel
theorem dX4_isTight_54 : decode cX4_isTight 54 = .ok (.iconst 0, 1) := by decide +kernel
theorem dX4_isTight_55 : decode cX4_isTight 55 = .ok (.ireturn, 1) := by decide +kernel
theorem dJ6_bitCount_0f7a4_0 : decode cJ6_bitCount_0f7a4 0 = .ok (.iload_n 0, 1) := by decide +kernel
theorem dJ6_bitCount_0f7a4_1 : decode cJ6_bitCount_0f7a4 1 = .ok (.iload_n 0, 1) := by decide +kernel
theorem dJ6_bitCount_0f7a4_2 : decode cJ6_bitCount_0f7a4 2 = .ok (.iconst 1, 1) := by decide +kernel
theorem dJ6_bitCount_0f7a4_3 : decode cJ6_bitCount_0f7a4 3 = .ok (.iushr, 1) := by decide +kernel
theorem dJ6_bitCount_0f7a4_4 : decode cJ6_bitCount_0f7a4 4 = .ok (.ldc_w 265, 3) := by decide +kernel
theorem dJ6_bitCount_0f7a4_7 : decode cJ6_bitCount_0f7a4 7 = .ok (.iand, 1) := by decide +kernel
theorem dJ6_bitCount_0f7a4_8 : decode cJ6_bitCount_0f7a4 8 = .ok (.isub, 1) := by decide +kernel
theorem dJ6_bitCount_0f7a4_9 : decode cJ6_bitCount_0f7a4 9 = .ok (.istore_n 0, 1) := by decide +kernel
theorem dJ6_bitCount_0f7a4_10 : decode cJ6_bitCount_0f7a4 10 = .ok (.iload_n 0, 1) := by decide +kernel
theorem dJ6_bitCount_0f7a4_11 : decode cJ6_bitCount_0f7a4 11 = .ok (.ldc_w 266, 3) := by decide +kernel
theorem dJ6_bitCount_0f7a4_14 : decode cJ6_bitCount_0f7a4 14 = .ok (.iand, 1) := by decide +kernel
theorem dJ6_bitCount_0f7a4_15 : decode cJ6_bitCount_0f7a4 15 = .ok (.iload_n 0, 1) := by decide +kernel
theorem dJ6_bitCount_0f7a4_16 : decode cJ6_bitCount_0f7a4 16 = .ok (.iconst 2, 1) := by decide +kernel
theorem dJ6_bitCount_0f7a4_17 : decode cJ6_bitCount_0f7a4 17 = .ok (.iushr, 1) := by decide +kernel
theorem dJ6_bitCount_0f7a4_18 : decode cJ6_bitCount_0f7a4 18 = .ok (.ldc_w 266, 3) := by decide +kernel
theorem dJ6_bitCount_0f7a4_21 : decode cJ6_bitCount_0f7a4 21 = .ok (.iand, 1) := by decide +kernel
theorem dJ6_bitCount_0f7a4_22 : decode cJ6_bitCount_0f7a4 22 = .ok (.iadd, 1) := by decide +kernel
theorem dJ6_bitCount_0f7a4_23 : decode cJ6_bitCount_0f7a4 23 = .ok (.istore_n 0, 1) := by decide +kernel
theorem dJ6_bitCount_0f7a4_24 : decode cJ6_bitCount_0f7a4 24 = .ok (.iload_n 0, 1) := by decide +kernel
theorem dJ6_bitCount_0f7a4_25 : decode cJ6_bitCount_0f7a4 25 = .ok (.iload_n 0, 1) := by decide +kernel
theorem dJ6_bitCount_0f7a4_26 : decode cJ6_bitCount_0f7a4 26 = .ok (.iconst 4, 1) := by decide +kernel
theorem dJ6_bitCount_0f7a4_27 : decode cJ6_bitCount_0f7a4 27 = .ok (.iushr, 1) := by decide +kernel
theorem dJ6_bitCount_0f7a4_28 : decode cJ6_bitCount_0f7a4 28 = .ok (.iadd, 1) := by decide +kernel
theorem dJ6_bitCount_0f7a4_29 : decode cJ6_bitCount_0f7a4 29 = .ok (.ldc_w 267, 3) := by decide +kernel
theorem dJ6_bitCount_0f7a4_32 : decode cJ6_bitCount_0f7a4 32 = .ok (.iand, 1) := by decide +kernel
theorem dJ6_bitCount_0f7a4_33 : decode cJ6_bitCount_0f7a4 33 = .ok (.istore_n 0, 1) := by decide +kernel
theorem dJ6_bitCount_0f7a4_34 : decode cJ6_bitCount_0f7a4 34 = .ok (.iload_n 0, 1) := by decide +kernel
theorem dJ6_bitCount_0f7a4_35 : decode cJ6_bitCount_0f7a4 35 = .ok (.iload_n 0, 1) := by decide +kernel
theorem dJ6_bitCount_0f7a4_36 : decode cJ6_bitCount_0f7a4 36 = .ok (.bipush 8, 2) := by decide +kernel
theorem dJ6_bitCount_0f7a4_38 : decode cJ6_bitCount_0f7a4 38 = .ok (.iushr, 1) := by decide +kernel
theorem dJ6_bitCount_0f7a4_39 : decode cJ6_bitCount_0f7a4 39 = .ok (.iadd, 1) := by decide +kernel
theorem dJ6_bitCount_0f7a4_40 : decode cJ6_bitCount_0f7a4 40 = .ok (.istore_n 0, 1) := by decide +kernel
theorem dJ6_bitCount_0f7a4_41 : decode cJ6_bitCount_0f7a4 41 = .ok (.iload_n 0, 1) := by decide +kernel
theorem dJ6_bitCount_0f7a4_42 : decode cJ6_bitCount_0f7a4 42 = .ok (.iload_n 0, 1) := by decide +kernel
theorem dJ6_bitCount_0f7a4_43 : decode cJ6_bitCount_0f7a4 43 = .ok (.bipush 16, 2) := by decide +kernel
theorem dJ6_bitCount_0f7a4_45 : decode cJ6_bitCount_0f7a4 45 = .ok (.iushr, 1) := by decide +kernel
theorem dJ6_bitCount_0f7a4_46 : decode cJ6_bitCount_0f7a4 46 = .ok (.iadd, 1) := by decide +kernel
theorem dJ6_bitCount_0f7a4_47 : decode cJ6_bitCount_0f7a4 47 = .ok (.istore_n 0, 1) := by decide +kernel
theorem dJ6_bitCount_0f7a4_48 : decode cJ6_bitCount_0f7a4 48 = .ok (.iload_n 0, 1) := by decide +kernel
theorem dJ6_bitCount_0f7a4_49 : decode cJ6_bitCount_0f7a4 49 = .ok (.bipush 63, 2) := by decide +kernel
theorem dJ6_bitCount_0f7a4_51 : decode cJ6_bitCount_0f7a4 51 = .ok (.iand, 1) := by decide +kernel
theorem dJ6_bitCount_0f7a4_52 : decode cJ6_bitCount_0f7a4 52 = .ok (.ireturn, 1) := by decide +kernel
