theorem dX5_init_0 : decode cX5_init 0 = .ok (.aload_n 0, 1) := by decide +kernel
theorem dX5_init_1 : decode cX5_init 1 = .ok (.invokespecial 1, 3) := by decide +kernel
theorem dX5_init_4 : decode cX5_init 4 = .ok (.aload_n 0, 1) := by decide +kernel
theorem dX5_init_5 : decode cX5_init 5 = .ok (.new 7, 3) := by decide +kernel
theorem dX5_init_8 : decode cX5_init 8 = .ok (.dup, 1) := by decide +kernel
theorem dX5_init_9 : decode cX5_init 9 = .ok (.invokespecial 9, 3) := by decide +kernel
theorem dX5_init_12 : decode cX5_init 12 = .ok (.putfield 10, 3) := by decide +kernel
theorem dX5_init_15 : decode cX5_init 15 = .ok (.aload_n 0, 1) := by decide +kernel
theorem dX5_init_16 : decode cX5_init 16 = .ok (.new 7, 3) := by decide +kernel
theorem dX5_init_19 : decode cX5_init 19 = .ok (.dup, 1) := by decide +kernel
theorem dX5_init_20 : decode cX5_init 20 = .ok (.invokespecial 9, 3) := by decide +kernel
theorem dX5_init_23 : decode cX5_init 23 = .ok (.putfield 16, 3) := by decide +kernel
theorem dX5_init_26 : decode cX5_init 26 = .ok (.aload_n 0, 1) := by decide +kernel
theorem dX5_init_27 : decode cX5_init 27 = .ok (.new 7, 3) := by decide +kernel
theorem dX5_init_30 : decode cX5_init 30 = .ok (.dup, 1) := by decide +kernel
theorem dX5_init_31 : decode cX5_init 31 = .ok (.invokespecial 9, 3) := by decide +kernel
theorem dX5_init_34 : decode cX5_init 34 = .ok (.putfield 19, 3) := by decide +kernel
theorem dX5_init_37 : decode cX5_init 37 = .ok (.aload_n 0, 1) := by decide +kernel
theorem dX5_init_38 : decode cX5_init 38 = .ok (.iconst 0, 1) := by decide +kernel
theorem dX5_init_39 : decode cX5_init 39 = .ok (.putfield 22, 3) := by decide +kernel
theorem dX5_init_42 : decode cX5_init 42 = .ok (.aload_n 0, 1) := by decide +kernel
theorem dX5_init_43 : decode cX5_init 43 = .ok (.new 26, 3) := by decide +kernel
theorem dX5_init_46 : decode cX5_init 46 = .ok (.dup, 1) := by decide +kernel
theorem dX5_init_47 : decode cX5_init 47 = .ok (.invokespecial 28, 3) := by decide +kernel
theorem dX5_init_50 : decode cX5_init 50 = .ok (.putfield 29, 3) := by decide +kernel
theorem dX5_init_53 : decode cX5_init 53 = .ok (.aload_n 0, 1) := by decide +kernel
theorem dX5_init_54 : decode cX5_init 54 = .ok (.new 33, 3) := by decide +kernel
theorem dX5_init_57 : decode cX5_init 57 = .ok (.dup, 1) := by decide +kernel
theorem dX5_init_58 : decode cX5_init 58 = .ok (.invokespecial 35, 3) := by decide +kernel
theorem dX5_init_61 : decode cX5_init 61 = .ok (.putfield 36, 3) := by decide +kernel
theorem dX5_init_64 : decode cX5_init 64 = .ok (.aload_n 0, 1) := by decide +kernel
theorem dX5_init_65 : decode cX5_init 65 = .ok (.bipush 8, 2) := by decide +kernel
theorem dX5_init_67 : decode cX5_init 67 = .ok (.newarray .int, 2) := by decide +kernel
theorem dX5_init_69 : decode cX5_init 69 = .ok (.putfield 40, 3) := by decide +kernel
theorem dX5_init_72 : decode cX5_init 72 = .ok (.return_, 1) := by decide +kernel
theorem dX5_addSite_0 : decode cX5_addSite 0 = .ok (.iload_n 1, 1) := by decide +kernel
theorem dX5_addSite_1 : decode cX5_addSite 1 = .ok (.invokestatic 44, 3) := by decide +kernel
theorem dX5_addSite_4 : decode cX5_addSite 4 = .ok (.ifCond .ne 6, 3) := by decide +kernel
theorem dX5_addSite_7 : decode cX5_addSite 7 = .ok (.bipush (-2), 2) := by decide +kernel
theorem dX5_addSite_9 : decode cX5_addSite 9 = .ok (.ireturn, 1) := by decide +kernel
theorem dX5_addSite_10 : decode cX5_addSite 10 = .ok (.aload_n 0, 1) := by decide +kernel
theorem dX5_addSite_11 : decode cX5_addSite 11 = .ok (.getfield 10, 3) := by decide +kernel
theorem dX5_addSite_14 : decode cX5_addSite 14 = .ok (.getfield 48, 3) := by decide +kernel
theorem dX5_addSite_17 : decode cX5_addSite 17 = .ok (.getfield 52, 3) := by decide +kernel
theorem dX5_addSite_20 : decode cX5_addSite 20 = .ok (.bipush 7, 2) := by decide +kernel
theorem dX5_addSite_22 : decode cX5_addSite 22 = .ok (.if_icmp .lt 6, 3) := by decide +kernel
theorem dX5_addSite_25 : decode cX5_addSite 25 = .ok (.bipush (-3), 2) := by decide +kernel
theorem dX5_addSite_27 : decode cX5_addSite 27 = .ok (.ireturn, 1) := by decide +kernel
theorem dX5_addSite_28 : decode cX5_addSite 28 = .ok (.aload_n 0, 1) := by decide +kernel
theorem dX5_addSite_29 : decode cX5_addSite 29 = .ok (.getfield 29, 3) := by decide +kernel
theorem dX5_addSite_32 : decode cX5_addSite 32 = .ok (.aload_n 0, 1) := by decide +kernel
theorem dX5_addSite_33 : decode cX5_addSite 33 = .ok (.getfield 10, 3) := by decide +kernel
theorem dX5_addSite_36 : decode cX5_addSite 36 = .ok (.invokevirtual 58, 3) := by decide +kernel
theorem dX5_addSite_39 : decode cX5_addSite 39 = .ok (.aload_n 0, 1) := by decide +kernel
theorem dX5_addSite_40 : decode cX5_addSite 40 = .ok (.getfield 10, 3) := by decide +kernel
theorem dX5_addSite_43 : decode cX5_addSite 43 = .ok (.invokevirtual 62, 3) := by decide +kernel
theorem dX5_addSite_46 : decode cX5_addSite 46 = .ok (.aload_n 0, 1) := by decide +kernel
theorem dX5_addSite_47 : decode cX5_addSite 47 = .ok (.getfield 10, 3) := by decide +kernel
theorem dX5_addSite_50 : decode cX5_addSite 50 = .ok (.getfield 48, 3) := by decide +kernel
theorem dX5_addSite_53 : decode cX5_addSite 53 = .ok (.iload_n 1, 1) := by decide +kernel
theorem dX5_addSite_54 : decode cX5_addSite 54 = .ok (.invokevirtual 65, 3) := by decide +kernel
theorem dX5_addSite_57 : decode cX5_addSite 57 = .ok (.ireturn, 1) := by decide +kernel
theorem dX5_addCustomer_0 : decode cX5_addCustomer 0 = .ok (.iload_n 1, 1) := by decide +kernel
theorem dX5_addCustomer_1 : decode cX5_addCustomer 1 = .ok (.invokestatic 69, 3) := by decide +kernel
theorem dX5_addCustomer_4 : decode cX5_addCustomer 4 = .ok (.ifCond .ne 6, 3) := by decide +kernel
theorem dX5_addCustomer_7 : decode cX5_addCustomer 7 = .ok (.bipush (-2), 2) := by decide +kernel
theorem dX5_addCustomer_9 : decode cX5_addCustomer 9 = .ok (.ireturn, 1) := by decide +kernel
theorem dX5_addCustomer_10 : decode cX5_addCustomer 10 = .ok (.aload_n 0, 1) := by decide +kernel
theorem dX5_addCustomer_11 : decode cX5_addCustomer 11 = .ok (.getfield 10, 3) := by decide +kernel
theorem dX5_addCustomer_14 : decode cX5_addCustomer 14 = .ok (.getfield 48, 3) := by decide +kernel
theorem dX5_addCustomer_17 : decode cX5_addCustomer 17 = .ok (.getfield 72, 3) := by decide +kernel
theorem dX5_addCustomer_20 : decode cX5_addCustomer 20 = .ok (.bipush 8, 2) := by decide +kernel
theorem dX5_addCustomer_22 : decode cX5_addCustomer 22 = .ok (.if_icmp .lt 6, 3) := by decide +kernel
theorem dX5_addCustomer_25 : decode cX5_addCustomer 25 = .ok (.bipush (-3), 2) := by decide +kernel
theorem dX5_addCustomer_27 : decode cX5_addCustomer 27 = .ok (.ireturn, 1) := by decide +kernel
theorem dX5_addCustomer_28 : decode cX5_addCustomer 28 = .ok (.aload_n 0, 1) := by decide +kernel
theorem dX5_addCustomer_29 : decode cX5_addCustomer 29 = .ok (.getfield 29, 3) := by decide +kernel
theorem dX5_addCustomer_32 : decode cX5_addCustomer 32 = .ok (.aload_n 0, 1) := by decide +kernel
theorem dX5_addCustomer_33 : decode cX5_addCustomer 33 = .ok (.getfield 10, 3) := by decide +kernel
theorem dX5_addCustomer_36 : decode cX5_addCustomer 36 = .ok (.invokevirtual 58, 3) := by decide +kernel
theorem dX5_addCustomer_39 : decode cX5_addCustomer 39 = .ok (.aload_n 0, 1) := by decide +kernel
theorem dX5_addCustomer_40 : decode cX5_addCustomer 40 = .ok (.getfield 10, 3) := by decide +kernel
theorem dX5_addCustomer_43 : decode cX5_addCustomer 43 = .ok (.invokevirtual 62, 3) := by decide +kernel
theorem dX5_addCustomer_46 : decode cX5_addCustomer 46 = .ok (.aload_n 0, 1) := by decide +kernel
theorem dX5_addCustomer_47 : decode cX5_addCustomer 47 = .ok (.getfield 10, 3) := by decide +kernel
theorem dX5_addCustomer_50 : decode cX5_addCustomer 50 = .ok (.getfield 48, 3) := by decide +kernel
theorem dX5_addCustomer_53 : decode cX5_addCustomer 53 = .ok (.iload_n 1, 1) := by decide +kernel
theorem dX5_addCustomer_54 : decode cX5_addCustomer 54 = .ok (.invokevirtual 75, 3) := by decide +kernel
theorem dX5_addCustomer_57 : decode cX5_addCustomer 57 = .ok (.ireturn, 1) := by decide +kernel
theorem dX5_setPrice_0 : decode cX5_setPrice 0 = .ok (.aload_n 0, 1) := by decide +kernel
theorem dX5_setPrice_1 : decode cX5_setPrice 1 = .ok (.getfield 10, 3) := by decide +kernel
theorem dX5_setPrice_4 : decode cX5_setPrice 4 = .ok (.getfield 48, 3) := by decide +kernel
theorem dX5_setPrice_7 : decode cX5_setPrice 7 = .ok (.iload_n 1, 1) := by decide +kernel
theorem dX5_setPrice_8 : decode cX5_setPrice 8 = .ok (.invokevirtual 78, 3) := by decide +kernel
theorem dX5_setPrice_11 : decode cX5_setPrice 11 = .ok (.ifCond .ne 5, 3) := by decide +kernel
theorem dX5_setPrice_14 : decode cX5_setPrice 14 = .ok (.iconst (-1), 1) := by decide +kernel
theorem dX5_setPrice_15 : decode cX5_setPrice 15 = .ok (.ireturn, 1) := by decide +kernel
theorem dX5_setPrice_16 : decode cX5_setPrice 16 = .ok (.iload_n 2, 1) := by decide +kernel
theorem dX5_setPrice_17 : decode cX5_setPrice 17 = .ok (.invokestatic 44, 3) := by decide +kernel
theorem dX5_setPrice_20 : decode cX5_setPrice 20 = .ok (.ifCond .ne 6, 3) := by decide +kernel
theorem dX5_setPrice_23 : decode cX5_setPrice 23 = .ok (.bipush (-2), 2) := by decide +kernel
theorem dX5_setPrice_25 : decode cX5_setPrice 25 = .ok (.ireturn, 1) := by decide +kernel
theorem dX5_setPrice_26 : decode cX5_setPrice 26 = .ok (.aload_n 0, 1) := by decide +kernel
theorem dX5_setPrice_27 : decode cX5_setPrice 27 = .ok (.getfield 10, 3) := by decide +kernel
theorem dX5_setPrice_30 : decode cX5_setPrice 30 = .ok (.getfield 48, 3) := by decide +kernel
theorem dX5_setPrice_33 : decode cX5_setPrice 33 = .ok (.getfield 81, 3) := by decide +kernel
theorem dX5_setPrice_36 : decode cX5_setPrice 36 = .ok (.iload_n 1, 1) := by decide +kernel
theorem dX5_setPrice_37 : decode cX5_setPrice 37 = .ok (.iaload, 1) := by decide +kernel
theorem dX5_setPrice_38 : decode cX5_setPrice 38 = .ok (.istore_n 3, 1) := by decide +kernel
theorem dX5_setPrice_39 : decode cX5_setPrice 39 = .ok (.iload_n 3, 1) := by decide +kernel
theorem dX5_setPrice_40 : decode cX5_setPrice 40 = .ok (.iload_n 2, 1) := by decide +kernel
theorem dX5_setPrice_41 : decode cX5_setPrice 41 = .ok (.if_icmp .ne 6, 3) := by decide +kernel
theorem dX5_setPrice_44 : decode cX5_setPrice 44 = .ok (.bipush (-5), 2) := by decide +kernel
theorem dX5_setPrice_46 : decode cX5_setPrice 46 = .ok (.ireturn, 1) := by decide +kernel
theorem dX5_setPrice_47 : decode cX5_setPrice 47 = .ok (.aload_n 0, 1) := by decide +kernel
theorem dX5_setPrice_48 : decode cX5_setPrice 48 = .ok (.getfield 29, 3) := by decide +kernel
theorem dX5_setPrice_51 : decode cX5_setPrice 51 = .ok (.aload_n 0, 1) := by decide +kernel
theorem dX5_setPrice_52 : decode cX5_setPrice 52 = .ok (.getfield 10, 3) := by decide +kernel
theorem dX5_setPrice_55 : decode cX5_setPrice 55 = .ok (.invokevirtual 58, 3) := by decide +kernel
theorem dX5_setPrice_58 : decode cX5_setPrice 58 = .ok (.aload_n 0, 1) := by decide +kernel
theorem dX5_setPrice_59 : decode cX5_setPrice 59 = .ok (.getfield 10, 3) := by decide +kernel
theorem dX5_setPrice_62 : decode cX5_setPrice 62 = .ok (.invokevirtual 62, 3) := by decide +kernel
theorem dX5_setPrice_65 : decode cX5_setPrice 65 = .ok (.aload_n 0, 1) := by decide +kernel
theorem dX5_setPrice_66 : decode cX5_setPrice 66 = .ok (.getfield 10, 3) := by decide +kernel
theorem dX5_setPrice_69 : decode cX5_setPrice 69 = .ok (.getfield 48, 3) := by decide +kernel
theorem dX5_setPrice_72 : decode cX5_setPrice 72 = .ok (.getfield 81, 3) := by decide +kernel
theorem dX5_setPrice_75 : decode cX5_setPrice 75 = .ok (.iload_n 1, 1) := by decide +kernel
theorem dX5_setPrice_76 : decode cX5_setPrice 76 = .ok (.iload_n 2, 1) := by decide +kernel
theorem dX5_setPrice_77 : decode cX5_setPrice 77 = .ok (.iastore, 1) := by decide +kernel
theorem dX5_setPrice_78 : decode cX5_setPrice 78 = .ok (.iload_n 3, 1) := by decide +kernel
theorem dX5_setPrice_79 : decode cX5_setPrice 79 = .ok (.ireturn, 1) := by decide +kernel
theorem dX5_setDemand_0 : decode cX5_setDemand 0 = .ok (.aload_n 0, 1) := by decide +kernel
theorem dX5_setDemand_1 : decode cX5_setDemand 1 = .ok (.getfield 10, 3) := by decide +kernel
theorem dX5_setDemand_4 : decode cX5_setDemand 4 = .ok (.getfield 48, 3) := by decide +kernel
theorem dX5_setDemand_7 : decode cX5_setDemand 7 = .ok (.iload_n 1, 1) := by decide +kernel
theorem dX5_setDemand_8 : decode cX5_setDemand 8 = .ok (.invokevirtual 84, 3) := by decide +kernel
theorem dX5_setDemand_11 : decode cX5_setDemand 11 = .ok (.ifCond .ne 5, 3) := by decide +kernel
theorem dX5_setDemand_14 : decode cX5_setDemand 14 = .ok (.iconst (-1), 1) := by decide +kernel
theorem dX5_setDemand_15 : decode cX5_setDemand 15 = .ok (.ireturn, 1) := by decide +kernel
theorem dX5_setDemand_16 : decode cX5_setDemand 16 = .ok (.iload_n 2, 1) := by decide +kernel
theorem dX5_setDemand_17 : decode cX5_setDemand 17 = .ok (.invokestatic 69, 3) := by decide +kernel
theorem dX5_setDemand_20 : decode cX5_setDemand 20 = .ok (.ifCond .ne 6, 3) := by decide +kernel
theorem dX5_setDemand_23 : decode cX5_setDemand 23 = .ok (.bipush (-2), 2) := by decide +kernel
theorem dX5_setDemand_25 : decode cX5_setDemand 25 = .ok (.ireturn, 1) := by decide +kernel
theorem dX5_setDemand_26 : decode cX5_setDemand 26 = .ok (.aload_n 0, 1) := by decide +kernel
theorem dX5_setDemand_27 : decode cX5_setDemand 27 = .ok (.getfield 10, 3) := by decide +kernel
theorem dX5_setDemand_30 : decode cX5_setDemand 30 = .ok (.getfield 48, 3) := by decide +kernel
theorem dX5_setDemand_33 : decode cX5_setDemand 33 = .ok (.getfield 87, 3) := by decide +kernel
theorem dX5_setDemand_36 : decode cX5_setDemand 36 = .ok (.iload_n 1, 1) := by decide +kernel
theorem dX5_setDemand_37 : decode cX5_setDemand 37 = .ok (.iaload, 1) := by decide +kernel
theorem dX5_setDemand_38 : decode cX5_setDemand 38 = .ok (.istore_n 3, 1) := by decide +kernel
theorem dX5_setDemand_39 : decode cX5_setDemand 39 = .ok (.iload_n 3, 1) := by decide +kernel
theorem dX5_setDemand_40 : decode cX5_setDemand 40 = .ok (.iload_n 2, 1) := by decide +kernel
theorem dX5_setDemand_41 : decode cX5_setDemand 41 = .ok (.if_icmp .ne 6, 3) := by decide +kernel
theorem dX5_setDemand_44 : decode cX5_setDemand 44 = .ok (.bipush (-5), 2) := by decide +kernel
theorem dX5_setDemand_46 : decode cX5_setDemand 46 = .ok (.ireturn, 1) := by decide +kernel
theorem dX5_setDemand_47 : decode cX5_setDemand 47 = .ok (.aload_n 0, 1) := by decide +kernel
theorem dX5_setDemand_48 : decode cX5_setDemand 48 = .ok (.getfield 29, 3) := by decide +kernel
theorem dX5_setDemand_51 : decode cX5_setDemand 51 = .ok (.aload_n 0, 1) := by decide +kernel
theorem dX5_setDemand_52 : decode cX5_setDemand 52 = .ok (.getfield 10, 3) := by decide +kernel
theorem dX5_setDemand_55 : decode cX5_setDemand 55 = .ok (.invokevirtual 58, 3) := by decide +kernel
theorem dX5_setDemand_58 : decode cX5_setDemand 58 = .ok (.aload_n 0, 1) := by decide +kernel
theorem dX5_setDemand_59 : decode cX5_setDemand 59 = .ok (.getfield 10, 3) := by decide +kernel
theorem dX5_setDemand_62 : decode cX5_setDemand 62 = .ok (.invokevirtual 62, 3) := by decide +kernel
theorem dX5_setDemand_65 : decode cX5_setDemand 65 = .ok (.aload_n 0, 1) := by decide +kernel
theorem dX5_setDemand_66 : decode cX5_setDemand 66 = .ok (.getfield 10, 3) := by decide +kernel
theorem dX5_setDemand_69 : decode cX5_setDemand 69 = .ok (.getfield 48, 3) := by decide +kernel
theorem dX5_setDemand_72 : decode cX5_setDemand 72 = .ok (.getfield 87, 3) := by decide +kernel
theorem dX5_setDemand_75 : decode cX5_setDemand 75 = .ok (.iload_n 1, 1) := by decide +kernel
theorem dX5_setDemand_76 : decode cX5_setDemand 76 = .ok (.iload_n 2, 1) := by decide +kernel
theorem dX5_setDemand_77 : decode cX5_setDemand 77 = .ok (.iastore, 1) := by decide +kernel
theorem dX5_setDemand_78 : decode cX5_setDemand 78 = .ok (.iload_n 3, 1) := by decide +kernel
theorem dX5_setDemand_79 : decode cX5_setDemand 79 = .ok (.ireturn, 1) := by decide +kernel
theorem dX5_setRoute_0 : decode cX5_setRoute 0 = .ok (.aload_n 0, 1) := by decide +kernel
theorem dX5_setRoute_1 : decode cX5_setRoute 1 = .ok (.getfield 10, 3) := by decide +kernel
theorem dX5_setRoute_4 : decode cX5_setRoute 4 = .ok (.getfield 48, 3) := by decide +kernel
theorem dX5_setRoute_7 : decode cX5_setRoute 7 = .ok (.iload_n 1, 1) := by decide +kernel
theorem dX5_setRoute_8 : decode cX5_setRoute 8 = .ok (.invokevirtual 78, 3) := by decide +kernel
theorem dX5_setRoute_11 : decode cX5_setRoute 11 = .ok (.ifCond .eq 17, 3) := by decide +kernel
theorem dX5_setRoute_14 : decode cX5_setRoute 14 = .ok (.aload_n 0, 1) := by decide +kernel
theorem dX5_setRoute_15 : decode cX5_setRoute 15 = .ok (.getfield 10, 3) := by decide +kernel
theorem dX5_setRoute_18 : decode cX5_setRoute 18 = .ok (.getfield 48, 3) := by decide +kernel
theorem dX5_setRoute_21 : decode cX5_setRoute 21 = .ok (.iload_n 2, 1) := by decide +kernel
theorem dX5_setRoute_22 : decode cX5_setRoute 22 = .ok (.invokevirtual 84, 3) := by decide +kernel
theorem dX5_setRoute_25 : decode cX5_setRoute 25 = .ok (.ifCond .ne 5, 3) := by decide +kernel
theorem dX5_setRoute_28 : decode cX5_setRoute 28 = .ok (.iconst (-1), 1) := by decide +kernel
theorem dX5_setRoute_29 : decode cX5_setRoute 29 = .ok (.ireturn, 1) := by decide +kernel
theorem dX5_setRoute_30 : decode cX5_setRoute 30 = .ok (.iload_n 3, 1) := by decide +kernel
theorem dX5_setRoute_31 : decode cX5_setRoute 31 = .ok (.ifCond .lt 9, 3) := by decide +kernel
theorem dX5_setRoute_34 : decode cX5_setRoute 34 = .ok (.iload_n 3, 1) := by decide +kernel
theorem dX5_setRoute_35 : decode cX5_setRoute 35 = .ok (.bipush 100, 2) := by decide +kernel
theorem dX5_setRoute_37 : decode cX5_setRoute 37 = .ok (.if_icmp .le 6, 3) := by decide +kernel
theorem dX5_setRoute_40 : decode cX5_setRoute 40 = .ok (.bipush (-2), 2) := by decide +kernel
theorem dX5_setRoute_42 : decode cX5_setRoute 42 = .ok (.ireturn, 1) := by decide +kernel
theorem dX5_setRoute_43 : decode cX5_setRoute 43 = .ok (.aload_n 0, 1) := by decide +kernel
theorem dX5_setRoute_44 : decode cX5_setRoute 44 = .ok (.getfield 10, 3) := by decide +kernel
theorem dX5_setRoute_47 : decode cX5_setRoute 47 = .ok (.getfield 48, 3) := by decide +kernel
theorem dX5_setRoute_50 : decode cX5_setRoute 50 = .ok (.getfield 90, 3) := by decide +kernel
theorem dX5_setRoute_53 : decode cX5_setRoute 53 = .ok (.iload_n 1, 1) := by decide +kernel
theorem dX5_setRoute_54 : decode cX5_setRoute 54 = .ok (.aaload, 1) := by decide +kernel
theorem dX5_setRoute_55 : decode cX5_setRoute 55 = .ok (.iload_n 2, 1) := by decide +kernel
theorem dX5_setRoute_56 : decode cX5_setRoute 56 = .ok (.iaload, 1) := by decide +kernel
theorem dX5_setRoute_57 : decode cX5_setRoute 57 = .ok (.istore 4, 2) := by decide +kernel
theorem dX5_setRoute_59 : decode cX5_setRoute 59 = .ok (.iload 4, 2) := by decide +kernel
theorem dX5_setRoute_61 : decode cX5_setRoute 61 = .ok (.iload_n 3, 1) := by decide +kernel
theorem dX5_setRoute_62 : decode cX5_setRoute 62 = .ok (.if_icmp .ne 6, 3) := by decide +kernel
theorem dX5_setRoute_65 : decode cX5_setRoute 65 = .ok (.bipush (-5), 2) := by decide +kernel
theorem dX5_setRoute_67 : decode cX5_setRoute 67 = .ok (.ireturn, 1) := by decide +kernel
theorem dX5_setRoute_68 : decode cX5_setRoute 68 = .ok (.aload_n 0, 1) := by decide +kernel
theorem dX5_setRoute_69 : decode cX5_setRoute 69 = .ok (.getfield 29, 3) := by decide +kernel
theorem dX5_setRoute_72 : decode cX5_setRoute 72 = .ok (.aload_n 0, 1) := by decide +kernel
theorem dX5_setRoute_73 : decode cX5_setRoute 73 = .ok (.getfield 10, 3) := by decide +kernel
theorem dX5_setRoute_76 : decode cX5_setRoute 76 = .ok (.invokevirtual 58, 3) := by decide +kernel
theorem dX5_setRoute_79 : decode cX5_setRoute 79 = .ok (.aload_n 0, 1) := by decide +kernel
theorem dX5_setRoute_80 : decode cX5_setRoute 80 = .ok (.getfield 10, 3) := by decide +kernel
theorem dX5_setRoute_83 : decode cX5_setRoute 83 = .ok (.invokevirtual 62, 3) := by decide +kernel
theorem dX5_setRoute_86 : decode cX5_setRoute 86 = .ok (.aload_n 0, 1) := by decide +kernel
theorem dX5_setRoute_87 : decode cX5_setRoute 87 = .ok (.getfield 10, 3) := by decide +kernel
theorem dX5_setRoute_90 : decode cX5_setRoute 90 = .ok (.getfield 48, 3) := by decide +kernel
theorem dX5_setRoute_93 : decode cX5_setRoute 93 = .ok (.getfield 90, 3) := by decide +kernel
theorem dX5_setRoute_96 : decode cX5_setRoute 96 = .ok (.iload_n 1, 1) := by decide +kernel
theorem dX5_setRoute_97 : decode cX5_setRoute 97 = .ok (.aaload, 1) := by decide +kernel
theorem dX5_setRoute_98 : decode cX5_setRoute 98 = .ok (.iload_n 2, 1) := by decide +kernel
theorem dX5_setRoute_99 : decode cX5_setRoute 99 = .ok (.iload_n 3, 1) := by decide +kernel
theorem dX5_setRoute_100 : decode cX5_setRoute 100 = .ok (.iastore, 1) := by decide +kernel
theorem dX5_setRoute_101 : decode cX5_setRoute 101 = .ok (.iload 4, 2) := by decide +kernel
theorem dX5_setRoute_103 : decode cX5_setRoute 103 = .ok (.ireturn, 1) := by decide +kernel
theorem dX5_setMost_0 : decode cX5_setMost 0 = .ok (.iload_n 1, 1) := by decide +kernel
theorem dX5_setMost_1 : decode cX5_setMost 1 = .ok (.iconst 1, 1) := by decide +kernel
theorem dX5_setMost_2 : decode cX5_setMost 2 = .ok (.if_icmp .lt 9, 3) := by decide +kernel
theorem dX5_setMost_5 : decode cX5_setMost 5 = .ok (.iload_n 1, 1) := by decide +kernel
theorem dX5_setMost_6 : decode cX5_setMost 6 = .ok (.bipush 7, 2) := by decide +kernel
theorem dX5_setMost_8 : decode cX5_setMost 8 = .ok (.if_icmp .le 6, 3) := by decide +kernel
theorem dX5_setMost_11 : decode cX5_setMost 11 = .ok (.bipush (-2), 2) := by decide +kernel
theorem dX5_setMost_13 : decode cX5_setMost 13 = .ok (.ireturn, 1) := by decide +kernel
theorem dX5_setMost_14 : decode cX5_setMost 14 = .ok (.aload_n 0, 1) := by decide +kernel
theorem dX5_setMost_15 : decode cX5_setMost 15 = .ok (.getfield 10, 3) := by decide +kernel
theorem dX5_setMost_18 : decode cX5_setMost 18 = .ok (.getfield 48, 3) := by decide +kernel
theorem dX5_setMost_21 : decode cX5_setMost 21 = .ok (.getfield 94, 3) := by decide +kernel
theorem dX5_setMost_24 : decode cX5_setMost 24 = .ok (.istore_n 2, 1) := by decide +kernel
theorem dX5_setMost_25 : decode cX5_setMost 25 = .ok (.iload_n 2, 1) := by decide +kernel
theorem dX5_setMost_26 : decode cX5_setMost 26 = .ok (.iload_n 1, 1) := by decide +kernel
theorem dX5_setMost_27 : decode cX5_setMost 27 = .ok (.if_icmp .ne 6, 3) := by decide +kernel
theorem dX5_setMost_30 : decode cX5_setMost 30 = .ok (.bipush (-5), 2) := by decide +kernel
theorem dX5_setMost_32 : decode cX5_setMost 32 = .ok (.ireturn, 1) := by decide +kernel
theorem dX5_setMost_33 : decode cX5_setMost 33 = .ok (.aload_n 0, 1) := by decide +kernel
theorem dX5_setMost_34 : decode cX5_setMost 34 = .ok (.getfield 29, 3) := by decide +kernel
theorem dX5_setMost_37 : decode cX5_setMost 37 = .ok (.aload_n 0, 1) := by decide +kernel
theorem dX5_setMost_38 : decode cX5_setMost 38 = .ok (.getfield 10, 3) := by decide +kernel
theorem dX5_setMost_41 : decode cX5_setMost 41 = .ok (.invokevirtual 58, 3) := by decide +kernel
theorem dX5_setMost_44 : decode cX5_setMost 44 = .ok (.aload_n 0, 1) := by decide +kernel
theorem dX5_setMost_45 : decode cX5_setMost 45 = .ok (.getfield 10, 3) := by decide +kernel
theorem dX5_setMost_48 : decode cX5_setMost 48 = .ok (.invokevirtual 97, 3) := by decide +kernel
theorem dX5_setMost_51 : decode cX5_setMost 51 = .ok (.aload_n 0, 1) := by decide +kernel
theorem dX5_setMost_52 : decode cX5_setMost 52 = .ok (.getfield 10, 3) := by decide +kernel
theorem dX5_setMost_55 : decode cX5_setMost 55 = .ok (.getfield 48, 3) := by decide +kernel
theorem dX5_setMost_58 : decode cX5_setMost 58 = .ok (.iload_n 1, 1) := by decide +kernel
theorem dX5_setMost_59 : decode cX5_setMost 59 = .ok (.putfield 94, 3) := by decide +kernel
theorem dX5_setMost_62 : decode cX5_setMost 62 = .ok (.iload_n 2, 1) := by decide +kernel
theorem dX5_setMost_63 : decode cX5_setMost 63 = .ok (.ireturn, 1) := by decide +kernel
theorem dX5_exclude_0 : decode cX5_exclude 0 = .ok (.aload_n 0, 1) := by decide +kernel
theorem dX5_exclude_1 : decode cX5_exclude 1 = .ok (.getfield 10, 3) := by decide +kernel
theorem dX5_exclude_4 : decode cX5_exclude 4 = .ok (.getfield 48, 3) := by decide +kernel
theorem dX5_exclude_7 : decode cX5_exclude 7 = .ok (.iload_n 1, 1) := by decide +kernel
theorem dX5_exclude_8 : decode cX5_exclude 8 = .ok (.invokevirtual 78, 3) := by decide +kernel
theorem dX5_exclude_11 : decode cX5_exclude 11 = .ok (.ifCond .eq 17, 3) := by decide +kernel
theorem dX5_exclude_14 : decode cX5_exclude 14 = .ok (.aload_n 0, 1) := by decide +kernel
theorem dX5_exclude_15 : decode cX5_exclude 15 = .ok (.getfield 10, 3) := by decide +kernel
theorem dX5_exclude_18 : decode cX5_exclude 18 = .ok (.getfield 48, 3) := by decide +kernel
theorem dX5_exclude_21 : decode cX5_exclude 21 = .ok (.iload_n 2, 1) := by decide +kernel
theorem dX5_exclude_22 : decode cX5_exclude 22 = .ok (.invokevirtual 78, 3) := by decide +kernel
theorem dX5_exclude_25 : decode cX5_exclude 25 = .ok (.ifCond .ne 5, 3) := by decide +kernel
theorem dX5_exclude_28 : decode cX5_exclude 28 = .ok (.iconst (-1), 1) := by decide +kernel
theorem dX5_exclude_29 : decode cX5_exclude 29 = .ok (.ireturn, 1) := by decide +kernel
theorem dX5_exclude_30 : decode cX5_exclude 30 = .ok (.iload_n 1, 1) := by decide +kernel
theorem dX5_exclude_31 : decode cX5_exclude 31 = .ok (.iload_n 2, 1) := by decide +kernel
theorem dX5_exclude_32 : decode cX5_exclude 32 = .ok (.if_icmp .ne 6, 3) := by decide +kernel
theorem dX5_exclude_35 : decode cX5_exclude 35 = .ok (.bipush (-2), 2) := by decide +kernel
theorem dX5_exclude_37 : decode cX5_exclude 37 = .ok (.ireturn, 1) := by decide +kernel
theorem dX5_exclude_38 : decode cX5_exclude 38 = .ok (.aload_n 0, 1) := by decide +kernel
theorem dX5_exclude_39 : decode cX5_exclude 39 = .ok (.getfield 10, 3) := by decide +kernel
theorem dX5_exclude_42 : decode cX5_exclude 42 = .ok (.getfield 48, 3) := by decide +kernel
theorem dX5_exclude_45 : decode cX5_exclude 45 = .ok (.iload_n 1, 1) := by decide +kernel
theorem dX5_exclude_46 : decode cX5_exclude 46 = .ok (.iload_n 2, 1) := by decide +kernel
theorem dX5_exclude_47 : decode cX5_exclude 47 = .ok (.invokevirtual 100, 3) := by decide +kernel
theorem dX5_exclude_50 : decode cX5_exclude 50 = .ok (.iload_n 3, 1) := by decide +kernel
theorem dX5_exclude_51 : decode cX5_exclude 51 = .ok (.if_icmp .ne 6, 3) := by decide +kernel
theorem dX5_exclude_54 : decode cX5_exclude 54 = .ok (.bipush (-5), 2) := by decide +kernel
theorem dX5_exclude_56 : decode cX5_exclude 56 = .ok (.ireturn, 1) := by decide +kernel
theorem dX5_exclude_57 : decode cX5_exclude 57 = .ok (.aload_n 0, 1) := by decide +kernel
theorem dX5_exclude_58 : decode cX5_exclude 58 = .ok (.getfield 29, 3) := by decide +kernel
theorem dX5_exclude_61 : decode cX5_exclude 61 = .ok (.aload_n 0, 1) := by decide +kernel
theorem dX5_exclude_62 : decode cX5_exclude 62 = .ok (.getfield 10, 3) := by decide +kernel
theorem dX5_exclude_65 : decode cX5_exclude 65 = .ok (.invokevirtual 58, 3) := by decide +kernel
theorem dX5_exclude_68 : decode cX5_exclude 68 = .ok (.aload_n 0, 1) := by decide +kernel
theorem dX5_exclude_69 : decode cX5_exclude 69 = .ok (.getfield 10, 3) := by decide +kernel
theorem dX5_exclude_72 : decode cX5_exclude 72 = .ok (.invokevirtual 97, 3) := by decide +kernel
theorem dX5_exclude_75 : decode cX5_exclude 75 = .ok (.aload_n 0, 1) := by decide +kernel
theorem dX5_exclude_76 : decode cX5_exclude 76 = .ok (.getfield 10, 3) := by decide +kernel
theorem dX5_exclude_79 : decode cX5_exclude 79 = .ok (.getfield 48, 3) := by decide +kernel
theorem dX5_exclude_82 : decode cX5_exclude 82 = .ok (.iload_n 1, 1) := by decide +kernel
theorem dX5_exclude_83 : decode cX5_exclude 83 = .ok (.iload_n 2, 1) := by decide +kernel
theorem dX5_exclude_84 : decode cX5_exclude 84 = .ok (.invokevirtual 104, 3) := by decide +kernel
theorem dX5_exclude_87 : decode cX5_exclude 87 = .ok (.aload_n 0, 1) := by decide +kernel
theorem dX5_exclude_88 : decode cX5_exclude 88 = .ok (.getfield 10, 3) := by decide +kernel
theorem dX5_exclude_91 : decode cX5_exclude 91 = .ok (.getfield 48, 3) := by decide +kernel
theorem dX5_exclude_94 : decode cX5_exclude 94 = .ok (.getfield 108, 3) := by decide +kernel
theorem dX5_exclude_97 : decode cX5_exclude 97 = .ok (.iload_n 1, 1) := by decide +kernel
theorem dX5_exclude_98 : decode cX5_exclude 98 = .ok (.iaload, 1) := by decide +kernel
theorem dX5_exclude_99 : decode cX5_exclude 99 = .ok (.invokestatic 111, 3) := by decide +kernel
theorem dX5_exclude_102 : decode cX5_exclude 102 = .ok (.ireturn, 1) := by decide +kernel
theorem dX5_step_0 : decode cX5_step 0 = .ok (.aload_n 0, 1) := by decide +kernel
theorem dX5_step_1 : decode cX5_step 1 = .ok (.getfield 16, 3) := by decide +kernel
theorem dX5_step_4 : decode cX5_step 4 = .ok (.aload_n 0, 1) := by decide +kernel
theorem dX5_step_5 : decode cX5_step 5 = .ok (.getfield 10, 3) := by decide +kernel
theorem dX5_step_8 : decode cX5_step 8 = .ok (.invokevirtual 116, 3) := by decide +kernel
theorem dX5_step_11 : decode cX5_step 11 = .ok (.aload_n 0, 1) := by decide +kernel
theorem dX5_step_12 : decode cX5_step 12 = .ok (.getfield 10, 3) := by decide +kernel
theorem dX5_step_15 : decode cX5_step 15 = .ok (.aload_n 0, 1) := by decide +kernel
theorem dX5_step_16 : decode cX5_step 16 = .ok (.getfield 40, 3) := by decide +kernel
theorem dX5_step_19 : decode cX5_step 19 = .ok (.invokevirtual 119, 3) := by decide +kernel
theorem dX5_step_22 : decode cX5_step 22 = .ok (.istore_n 1, 1) := by decide +kernel
theorem dX5_step_23 : decode cX5_step 23 = .ok (.iload_n 1, 1) := by decide +kernel
theorem dX5_step_24 : decode cX5_step 24 = .ok (.ifCond .ge 5, 3) := by decide +kernel
theorem dX5_step_27 : decode cX5_step 27 = .ok (.iload_n 1, 1) := by decide +kernel
theorem dX5_step_28 : decode cX5_step 28 = .ok (.ireturn, 1) := by decide +kernel
theorem dX5_step_29 : decode cX5_step 29 = .ok (.aload_n 0, 1) := by decide +kernel
theorem dX5_step_30 : decode cX5_step 30 = .ok (.getfield 29, 3) := by decide +kernel
theorem dX5_step_33 : decode cX5_step 33 = .ok (.aload_n 0, 1) := by decide +kernel
theorem dX5_step_34 : decode cX5_step 34 = .ok (.getfield 16, 3) := by decide +kernel
theorem dX5_step_37 : decode cX5_step 37 = .ok (.invokevirtual 58, 3) := by decide +kernel
theorem dX5_step_40 : decode cX5_step 40 = .ok (.iload_n 1, 1) := by decide +kernel
theorem dX5_step_41 : decode cX5_step 41 = .ok (.ireturn, 1) := by decide +kernel
theorem dX5_solve_0 : decode cX5_solve 0 = .ok (.aload_n 0, 1) := by decide +kernel
theorem dX5_solve_1 : decode cX5_solve 1 = .ok (.getfield 16, 3) := by decide +kernel
theorem dX5_solve_4 : decode cX5_solve 4 = .ok (.aload_n 0, 1) := by decide +kernel
theorem dX5_solve_5 : decode cX5_solve 5 = .ok (.getfield 10, 3) := by decide +kernel
theorem dX5_solve_8 : decode cX5_solve 8 = .ok (.invokevirtual 116, 3) := by decide +kernel
theorem dX5_solve_11 : decode cX5_solve 11 = .ok (.aload_n 0, 1) := by decide +kernel
theorem dX5_solve_12 : decode cX5_solve 12 = .ok (.getfield 10, 3) := by decide +kernel
theorem dX5_solve_15 : decode cX5_solve 15 = .ok (.aload_n 0, 1) := by decide +kernel
theorem dX5_solve_16 : decode cX5_solve 16 = .ok (.getfield 40, 3) := by decide +kernel
theorem dX5_solve_19 : decode cX5_solve 19 = .ok (.invokevirtual 119, 3) := by decide +kernel
theorem dX5_solve_22 : decode cX5_solve 22 = .ok (.istore_n 1, 1) := by decide +kernel
theorem dX5_solve_23 : decode cX5_solve 23 = .ok (.iload_n 1, 1) := by decide +kernel
theorem dX5_solve_24 : decode cX5_solve 24 = .ok (.ifCond .ge 5, 3) := by decide +kernel
theorem dX5_solve_27 : decode cX5_solve 27 = .ok (.iload_n 1, 1) := by decide +kernel
theorem dX5_solve_28 : decode cX5_solve 28 = .ok (.ireturn, 1) := by decide +kernel
theorem dX5_solve_29 : decode cX5_solve 29 = .ok (.iconst 0, 1) := by decide +kernel
theorem dX5_solve_30 : decode cX5_solve 30 = .ok (.istore_n 2, 1) := by decide +kernel
theorem dX5_solve_31 : decode cX5_solve 31 = .ok (.iload_n 2, 1) := by decide +kernel
theorem dX5_solve_32 : decode cX5_solve 32 = .ok (.bipush 40, 2) := by decide +kernel
theorem dX5_solve_34 : decode cX5_solve 34 = .ok (.if_icmp .gt 28, 3) := by decide +kernel
theorem dX5_solve_37 : decode cX5_solve 37 = .ok (.iload_n 1, 1) := by decide +kernel
theorem dX5_solve_38 : decode cX5_solve 38 = .ok (.invokestatic 123, 3) := by decide +kernel
theorem dX5_solve_41 : decode cX5_solve 41 = .ok (.ifCond .eq 21, 3) := by decide +kernel
theorem dX5_solve_44 : decode cX5_solve 44 = .ok (.aload_n 0, 1) := by decide +kernel
theorem dX5_solve_45 : decode cX5_solve 45 = .ok (.getfield 10, 3) := by decide +kernel
theorem dX5_solve_48 : decode cX5_solve 48 = .ok (.aload_n 0, 1) := by decide +kernel
theorem dX5_solve_49 : decode cX5_solve 49 = .ok (.getfield 40, 3) := by decide +kernel
theorem dX5_solve_52 : decode cX5_solve 52 = .ok (.invokevirtual 119, 3) := by decide +kernel
theorem dX5_solve_55 : decode cX5_solve 55 = .ok (.istore_n 1, 1) := by decide +kernel
theorem dX5_solve_56 : decode cX5_solve 56 = .ok (.iinc 2 1, 3) := by decide +kernel
theorem dX5_solve_59 : decode cX5_solve 59 = .ok (.goto (-28), 3) := by decide +kernel
theorem dX5_solve_62 : decode cX5_solve 62 = .ok (.iload_n 1, 1) := by decide +kernel
theorem dX5_solve_63 : decode cX5_solve 63 = .ok (.bipush (-3), 2) := by decide +kernel
theorem dX5_solve_65 : decode cX5_solve 65 = .ok (.if_icmp .ne 17, 3) := by decide +kernel
theorem dX5_solve_68 : decode cX5_solve 68 = .ok (.aload_n 0, 1) := by decide +kernel
theorem dX5_solve_69 : decode cX5_solve 69 = .ok (.getfield 10, 3) := by decide +kernel
theorem dX5_solve_72 : decode cX5_solve 72 = .ok (.aload_n 0, 1) := by decide +kernel
theorem dX5_solve_73 : decode cX5_solve 73 = .ok (.getfield 16, 3) := by decide +kernel
theorem dX5_solve_76 : decode cX5_solve 76 = .ok (.invokevirtual 116, 3) := by decide +kernel
theorem dX5_solve_79 : decode cX5_solve 79 = .ok (.bipush (-3), 2) := by decide +kernel
theorem dX5_solve_81 : decode cX5_solve 81 = .ok (.ireturn, 1) := by decide +kernel
theorem dX5_solve_82 : decode cX5_solve 82 = .ok (.aload_n 0, 1) := by decide +kernel
theorem dX5_solve_83 : decode cX5_solve 83 = .ok (.getfield 29, 3) := by decide +kernel
theorem dX5_solve_86 : decode cX5_solve 86 = .ok (.aload_n 0, 1) := by decide +kernel
theorem dX5_solve_87 : decode cX5_solve 87 = .ok (.getfield 16, 3) := by decide +kernel
theorem dX5_solve_90 : decode cX5_solve 90 = .ok (.invokevirtual 58, 3) := by decide +kernel
theorem dX5_solve_93 : decode cX5_solve 93 = .ok (.aload_n 0, 1) := by decide +kernel
theorem dX5_solve_94 : decode cX5_solve 94 = .ok (.getfield 10, 3) := by decide +kernel
theorem dX5_solve_97 : decode cX5_solve 97 = .ok (.getfield 126, 3) := by decide +kernel
theorem dX5_solve_100 : decode cX5_solve 100 = .ok (.getfield 130, 3) := by decide +kernel
theorem dX5_solve_103 : decode cX5_solve 103 = .ok (.aload_n 0, 1) := by decide +kernel
theorem dX5_solve_104 : decode cX5_solve 104 = .ok (.getfield 16, 3) := by decide +kernel
theorem dX5_solve_107 : decode cX5_solve 107 = .ok (.getfield 126, 3) := by decide +kernel
theorem dX5_solve_110 : decode cX5_solve 110 = .ok (.getfield 130, 3) := by decide +kernel
theorem dX5_solve_113 : decode cX5_solve 113 = .ok (.isub, 1) := by decide +kernel
theorem dX5_solve_114 : decode cX5_solve 114 = .ok (.ireturn, 1) := by decide +kernel
theorem dX5_readCut_0 : decode cX5_readCut 0 = .ok (.aload_n 0, 1) := by decide +kernel
theorem dX5_readCut_1 : decode cX5_readCut 1 = .ok (.getfield 10, 3) := by decide +kernel
theorem dX5_readCut_4 : decode cX5_readCut 4 = .ok (.getfield 48, 3) := by decide +kernel
theorem dX5_readCut_7 : decode cX5_readCut 7 = .ok (.getfield 72, 3) := by decide +kernel
theorem dX5_readCut_10 : decode cX5_readCut 10 = .ok (.ifCond .ne 6, 3) := by decide +kernel
theorem dX5_readCut_13 : decode cX5_readCut 13 = .ok (.bipush (-4), 2) := by decide +kernel
theorem dX5_readCut_15 : decode cX5_readCut 15 = .ok (.ireturn, 1) := by decide +kernel
theorem dX5_readCut_16 : decode cX5_readCut 16 = .ok (.aload_n 0, 1) := by decide +kernel
theorem dX5_readCut_17 : decode cX5_readCut 17 = .ok (.getfield 36, 3) := by decide +kernel
theorem dX5_readCut_20 : decode cX5_readCut 20 = .ok (.aload_n 0, 1) := by decide +kernel
theorem dX5_readCut_21 : decode cX5_readCut 21 = .ok (.getfield 40, 3) := by decide +kernel
theorem dX5_readCut_24 : decode cX5_readCut 24 = .ok (.aload_n 0, 1) := by decide +kernel
theorem dX5_readCut_25 : decode cX5_readCut 25 = .ok (.getfield 10, 3) := by decide +kernel
theorem dX5_readCut_28 : decode cX5_readCut 28 = .ok (.getfield 48, 3) := by decide +kernel
theorem dX5_readCut_31 : decode cX5_readCut 31 = .ok (.getfield 72, 3) := by decide +kernel
theorem dX5_readCut_34 : decode cX5_readCut 34 = .ok (.invokevirtual 135, 3) := by decide +kernel
theorem dX5_readCut_37 : decode cX5_readCut 37 = .ok (.istore_n 1, 1) := by decide +kernel
theorem dX5_readCut_38 : decode cX5_readCut 38 = .ok (.iload_n 1, 1) := by decide +kernel
theorem dX5_readCut_39 : decode cX5_readCut 39 = .ok (.iconst (-1), 1) := by decide +kernel
theorem dX5_readCut_40 : decode cX5_readCut 40 = .ok (.if_icmp .eq 8, 3) := by decide +kernel
theorem dX5_readCut_43 : decode cX5_readCut 43 = .ok (.bipush (-100), 2) := by decide +kernel
theorem dX5_readCut_45 : decode cX5_readCut 45 = .ok (.iload_n 1, 1) := by decide +kernel
theorem dX5_readCut_46 : decode cX5_readCut 46 = .ok (.isub, 1) := by decide +kernel
theorem dX5_readCut_47 : decode cX5_readCut 47 = .ok (.ireturn, 1) := by decide +kernel
theorem dX5_readCut_48 : decode cX5_readCut 48 = .ok (.aload_n 0, 1) := by decide +kernel
theorem dX5_readCut_49 : decode cX5_readCut 49 = .ok (.getfield 10, 3) := by decide +kernel
theorem dX5_readCut_52 : decode cX5_readCut 52 = .ok (.getfield 126, 3) := by decide +kernel
theorem dX5_readCut_55 : decode cX5_readCut 55 = .ok (.invokevirtual 139, 3) := by decide +kernel
theorem dX5_readCut_58 : decode cX5_readCut 58 = .ok (.ifCond .eq 6, 3) := by decide +kernel
theorem dX5_readCut_61 : decode cX5_readCut 61 = .ok (.bipush (-3), 2) := by decide +kernel
theorem dX5_readCut_63 : decode cX5_readCut 63 = .ok (.ireturn, 1) := by decide +kernel
theorem dX5_readCut_64 : decode cX5_readCut 64 = .ok (.aload_n 0, 1) := by decide +kernel
theorem dX5_readCut_65 : decode cX5_readCut 65 = .ok (.getfield 29, 3) := by decide +kernel
theorem dX5_readCut_68 : decode cX5_readCut 68 = .ok (.aload_n 0, 1) := by decide +kernel
theorem dX5_readCut_69 : decode cX5_readCut 69 = .ok (.getfield 10, 3) := by decide +kernel
theorem dX5_readCut_72 : decode cX5_readCut 72 = .ok (.invokevirtual 58, 3) := by decide +kernel
theorem dX5_readCut_75 : decode cX5_readCut 75 = .ok (.aload_n 0, 1) := by decide +kernel
theorem dX5_readCut_76 : decode cX5_readCut 76 = .ok (.getfield 10, 3) := by decide +kernel
theorem dX5_readCut_79 : decode cX5_readCut 79 = .ok (.getfield 126, 3) := by decide +kernel
theorem dX5_readCut_82 : decode cX5_readCut 82 = .ok (.aload_n 0, 1) := by decide +kernel
theorem dX5_readCut_83 : decode cX5_readCut 83 = .ok (.getfield 10, 3) := by decide +kernel
theorem dX5_readCut_86 : decode cX5_readCut 86 = .ok (.getfield 48, 3) := by decide +kernel
theorem dX5_readCut_89 : decode cX5_readCut 89 = .ok (.aload_n 0, 1) := by decide +kernel
theorem dX5_readCut_90 : decode cX5_readCut 90 = .ok (.getfield 40, 3) := by decide +kernel
theorem dX5_readCut_93 : decode cX5_readCut 93 = .ok (.invokevirtual 143, 3) := by decide +kernel
theorem dX5_readCut_96 : decode cX5_readCut 96 = .ok (.ireturn, 1) := by decide +kernel
theorem dX5_drop_0 : decode cX5_drop 0 = .ok (.aload_n 0, 1) := by decide +kernel
theorem dX5_drop_1 : decode cX5_drop 1 = .ok (.getfield 10, 3) := by decide +kernel
theorem dX5_drop_4 : decode cX5_drop 4 = .ok (.getfield 126, 3) := by decide +kernel
theorem dX5_drop_7 : decode cX5_drop 7 = .ok (.iload_n 1, 1) := by decide +kernel
theorem dX5_drop_8 : decode cX5_drop 8 = .ok (.invokevirtual 147, 3) := by decide +kernel
theorem dX5_drop_11 : decode cX5_drop 11 = .ok (.ifCond .ne 5, 3) := by decide +kernel
theorem dX5_drop_14 : decode cX5_drop 14 = .ok (.iconst (-1), 1) := by decide +kernel
theorem dX5_drop_15 : decode cX5_drop 15 = .ok (.ireturn, 1) := by decide +kernel
theorem dX5_drop_16 : decode cX5_drop 16 = .ok (.aload_n 0, 1) := by decide +kernel
theorem dX5_drop_17 : decode cX5_drop 17 = .ok (.getfield 29, 3) := by decide +kernel
theorem dX5_drop_20 : decode cX5_drop 20 = .ok (.aload_n 0, 1) := by decide +kernel
theorem dX5_drop_21 : decode cX5_drop 21 = .ok (.getfield 10, 3) := by decide +kernel
theorem dX5_drop_24 : decode cX5_drop 24 = .ok (.invokevirtual 58, 3) := by decide +kernel
theorem dX5_drop_27 : decode cX5_drop 27 = .ok (.aload_n 0, 1) := by decide +kernel
theorem dX5_drop_28 : decode cX5_drop 28 = .ok (.getfield 10, 3) := by decide +kernel
theorem dX5_drop_31 : decode cX5_drop 31 = .ok (.getfield 126, 3) := by decide +kernel
theorem dX5_drop_34 : decode cX5_drop 34 = .ok (.iload_n 1, 1) := by decide +kernel
theorem dX5_drop_35 : decode cX5_drop 35 = .ok (.invokevirtual 150, 3) := by decide +kernel
theorem dX5_drop_38 : decode cX5_drop 38 = .ok (.aload_n 0, 1) := by decide +kernel
theorem dX5_drop_39 : decode cX5_drop 39 = .ok (.getfield 10, 3) := by decide +kernel
theorem dX5_drop_42 : decode cX5_drop 42 = .ok (.getfield 126, 3) := by decide +kernel
theorem dX5_drop_45 : decode cX5_drop 45 = .ok (.getfield 130, 3) := by decide +kernel
theorem dX5_drop_48 : decode cX5_drop 48 = .ok (.ireturn, 1) := by decide +kernel
theorem dX5_dropLoose_0 : decode cX5_dropLoose 0 = .ok (.aload_n 0, 1) := by decide +kernel
theorem dX5_dropLoose_1 : decode cX5_dropLoose 1 = .ok (.getfield 10, 3) := by decide +kernel
theorem dX5_dropLoose_4 : decode cX5_dropLoose 4 = .ok (.invokevirtual 154, 3) := by decide +kernel
theorem dX5_dropLoose_7 : decode cX5_dropLoose 7 = .ok (.istore_n 1, 1) := by decide +kernel
theorem dX5_dropLoose_8 : decode cX5_dropLoose 8 = .ok (.iload_n 1, 1) := by decide +kernel
theorem dX5_dropLoose_9 : decode cX5_dropLoose 9 = .ok (.iconst (-1), 1) := by decide +kernel
theorem dX5_dropLoose_10 : decode cX5_dropLoose 10 = .ok (.if_icmp .ne 6, 3) := by decide +kernel
theorem dX5_dropLoose_13 : decode cX5_dropLoose 13 = .ok (.bipush (-4), 2) := by decide +kernel
theorem dX5_dropLoose_15 : decode cX5_dropLoose 15 = .ok (.ireturn, 1) := by decide +kernel
theorem dX5_dropLoose_16 : decode cX5_dropLoose 16 = .ok (.aload_n 0, 1) := by decide +kernel
theorem dX5_dropLoose_17 : decode cX5_dropLoose 17 = .ok (.getfield 10, 3) := by decide +kernel
theorem dX5_dropLoose_20 : decode cX5_dropLoose 20 = .ok (.getfield 126, 3) := by decide +kernel
theorem dX5_dropLoose_23 : decode cX5_dropLoose 23 = .ok (.iload_n 1, 1) := by decide +kernel
theorem dX5_dropLoose_24 : decode cX5_dropLoose 24 = .ok (.invokevirtual 158, 3) := by decide +kernel
theorem dX5_dropLoose_27 : decode cX5_dropLoose 27 = .ok (.istore_n 2, 1) := by decide +kernel
theorem dX5_dropLoose_28 : decode cX5_dropLoose 28 = .ok (.iload_n 2, 1) := by decide +kernel
theorem dX5_dropLoose_29 : decode cX5_dropLoose 29 = .ok (.ifCond .ne 6, 3) := by decide +kernel
theorem dX5_dropLoose_32 : decode cX5_dropLoose 32 = .ok (.bipush (-5), 2) := by decide +kernel
theorem dX5_dropLoose_34 : decode cX5_dropLoose 34 = .ok (.ireturn, 1) := by decide +kernel
theorem dX5_dropLoose_35 : decode cX5_dropLoose 35 = .ok (.aload_n 0, 1) := by decide +kernel
theorem dX5_dropLoose_36 : decode cX5_dropLoose 36 = .ok (.getfield 29, 3) := by decide +kernel
theorem dX5_dropLoose_39 : decode cX5_dropLoose 39 = .ok (.aload_n 0, 1) := by decide +kernel
theorem dX5_dropLoose_40 : decode cX5_dropLoose 40 = .ok (.getfield 10, 3) := by decide +kernel
theorem dX5_dropLoose_43 : decode cX5_dropLoose 43 = .ok (.invokevirtual 58, 3) := by decide +kernel
theorem dX5_dropLoose_46 : decode cX5_dropLoose 46 = .ok (.aload_n 0, 1) := by decide +kernel
theorem dX5_dropLoose_47 : decode cX5_dropLoose 47 = .ok (.getfield 10, 3) := by decide +kernel
theorem dX5_dropLoose_50 : decode cX5_dropLoose 50 = .ok (.getfield 126, 3) := by decide +kernel
theorem dX5_dropLoose_53 : decode cX5_dropLoose 53 = .ok (.iload_n 1, 1) := by decide +kernel
theorem dX5_dropLoose_54 : decode cX5_dropLoose 54 = .ok (.invokevirtual 161, 3) := by decide +kernel
theorem dX5_dropLoose_57 : decode cX5_dropLoose 57 = .ok (.iload_n 2, 1) := by decide +kernel
theorem dX5_dropLoose_58 : decode cX5_dropLoose 58 = .ok (.ireturn, 1) := by decide +kernel
theorem dX5_type_0 : decode cX5_type 0 = .ok (.aload_n 0, 1) := by decide +kernel
theorem dX5_type_1 : decode cX5_type 1 = .ok (.getfield 36, 3) := by decide +kernel
theorem dX5_type_4 : decode cX5_type 4 = .ok (.invokevirtual 164, 3) := by decide +kernel
theorem dX5_type_7 : decode cX5_type 7 = .ok (.ifCond .eq 6, 3) := by decide +kernel
theorem dX5_type_10 : decode cX5_type 10 = .ok (.bipush (-3), 2) := by decide +kernel
theorem dX5_type_12 : decode cX5_type 12 = .ok (.ireturn, 1) := by decide +kernel
theorem dX5_type_13 : decode cX5_type 13 = .ok (.aload_n 0, 1) := by decide +kernel
theorem dX5_type_14 : decode cX5_type 14 = .ok (.getfield 36, 3) := by decide +kernel
theorem dX5_type_17 : decode cX5_type 17 = .ok (.iload_n 1, 1) := by decide +kernel
theorem dX5_type_18 : decode cX5_type 18 = .ok (.invokevirtual 165, 3) := by decide +kernel
theorem dX5_type_21 : decode cX5_type 21 = .ok (.aload_n 0, 1) := by decide +kernel
theorem dX5_type_22 : decode cX5_type 22 = .ok (.getfield 36, 3) := by decide +kernel
theorem dX5_type_25 : decode cX5_type 25 = .ok (.getfield 169, 3) := by decide +kernel
theorem dX5_type_28 : decode cX5_type 28 = .ok (.ireturn, 1) := by decide +kernel
theorem dX5_clearText_0 : decode cX5_clearText 0 = .ok (.aload_n 0, 1) := by decide +kernel
theorem dX5_clearText_1 : decode cX5_clearText 1 = .ok (.getfield 36, 3) := by decide +kernel
theorem dX5_clearText_4 : decode cX5_clearText 4 = .ok (.getfield 169, 3) := by decide +kernel
theorem dX5_clearText_7 : decode cX5_clearText 7 = .ok (.istore_n 1, 1) := by decide +kernel
theorem dX5_clearText_8 : decode cX5_clearText 8 = .ok (.aload_n 0, 1) := by decide +kernel
theorem dX5_clearText_9 : decode cX5_clearText 9 = .ok (.getfield 36, 3) := by decide +kernel
theorem dX5_clearText_12 : decode cX5_clearText 12 = .ok (.iconst 0, 1) := by decide +kernel
theorem dX5_clearText_13 : decode cX5_clearText 13 = .ok (.putfield 169, 3) := by decide +kernel
theorem dX5_clearText_16 : decode cX5_clearText 16 = .ok (.iload_n 1, 1) := by decide +kernel
theorem dX5_clearText_17 : decode cX5_clearText 17 = .ok (.ireturn, 1) := by decide +kernel
theorem dX5_undo_0 : decode cX5_undo 0 = .ok (.aload_n 0, 1) := by decide +kernel
theorem dX5_undo_1 : decode cX5_undo 1 = .ok (.getfield 29, 3) := by decide +kernel
theorem dX5_undo_4 : decode cX5_undo 4 = .ok (.getfield 172, 3) := by decide +kernel
theorem dX5_undo_7 : decode cX5_undo 7 = .ok (.ifCond .ne 6, 3) := by decide +kernel
theorem dX5_undo_10 : decode cX5_undo 10 = .ok (.bipush (-5), 2) := by decide +kernel
theorem dX5_undo_12 : decode cX5_undo 12 = .ok (.ireturn, 1) := by decide +kernel
theorem dX5_undo_13 : decode cX5_undo 13 = .ok (.aload_n 0, 1) := by decide +kernel
theorem dX5_undo_14 : decode cX5_undo 14 = .ok (.getfield 29, 3) := by decide +kernel
theorem dX5_undo_17 : decode cX5_undo 17 = .ok (.aload_n 0, 1) := by decide +kernel
theorem dX5_undo_18 : decode cX5_undo 18 = .ok (.getfield 10, 3) := by decide +kernel
theorem dX5_undo_21 : decode cX5_undo 21 = .ok (.invokevirtual 173, 3) := by decide +kernel
theorem dX5_undo_24 : decode cX5_undo 24 = .ok (.aload_n 0, 1) := by decide +kernel
theorem dX5_undo_25 : decode cX5_undo 25 = .ok (.getfield 29, 3) := by decide +kernel
theorem dX5_undo_28 : decode cX5_undo 28 = .ok (.getfield 172, 3) := by decide +kernel
theorem dX5_undo_31 : decode cX5_undo 31 = .ok (.ireturn, 1) := by decide +kernel
theorem dX5_keep_0 : decode cX5_keep 0 = .ok (.aload_n 0, 1) := by decide +kernel
theorem dX5_keep_1 : decode cX5_keep 1 = .ok (.getfield 19, 3) := by decide +kernel
theorem dX5_keep_4 : decode cX5_keep 4 = .ok (.aload_n 0, 1) := by decide +kernel
theorem dX5_keep_5 : decode cX5_keep 5 = .ok (.getfield 10, 3) := by decide +kernel
theorem dX5_keep_8 : decode cX5_keep 8 = .ok (.invokevirtual 116, 3) := by decide +kernel
theorem dX5_keep_11 : decode cX5_keep 11 = .ok (.aload_n 0, 1) := by decide +kernel
theorem dX5_keep_12 : decode cX5_keep 12 = .ok (.iconst 1, 1) := by decide +kernel
theorem dX5_keep_13 : decode cX5_keep 13 = .ok (.putfield 22, 3) := by decide +kernel
theorem dX5_keep_16 : decode cX5_keep 16 = .ok (.aload_n 0, 1) := by decide +kernel
theorem dX5_keep_17 : decode cX5_keep 17 = .ok (.getfield 10, 3) := by decide +kernel
theorem dX5_keep_20 : decode cX5_keep 20 = .ok (.getfield 126, 3) := by decide +kernel
theorem dX5_keep_23 : decode cX5_keep 23 = .ok (.getfield 130, 3) := by decide +kernel
theorem dX5_keep_26 : decode cX5_keep 26 = .ok (.ireturn, 1) := by decide +kernel
theorem dX5_restore_0 : decode cX5_restore 0 = .ok (.aload_n 0, 1) := by decide +kernel
theorem dX5_restore_1 : decode cX5_restore 1 = .ok (.getfield 22, 3) := by decide +kernel
theorem dX5_restore_4 : decode cX5_restore 4 = .ok (.ifCond .ne 6, 3) := by decide +kernel
theorem dX5_restore_7 : decode cX5_restore 7 = .ok (.bipush (-5), 2) := by decide +kernel
theorem dX5_restore_9 : decode cX5_restore 9 = .ok (.ireturn, 1) := by decide +kernel
theorem dX5_restore_10 : decode cX5_restore 10 = .ok (.aload_n 0, 1) := by decide +kernel
theorem dX5_restore_11 : decode cX5_restore 11 = .ok (.getfield 29, 3) := by decide +kernel
theorem dX5_restore_14 : decode cX5_restore 14 = .ok (.aload_n 0, 1) := by decide +kernel
theorem dX5_restore_15 : decode cX5_restore 15 = .ok (.getfield 10, 3) := by decide +kernel
theorem dX5_restore_18 : decode cX5_restore 18 = .ok (.invokevirtual 58, 3) := by decide +kernel
theorem dX5_restore_21 : decode cX5_restore 21 = .ok (.aload_n 0, 1) := by decide +kernel
theorem dX5_restore_22 : decode cX5_restore 22 = .ok (.getfield 10, 3) := by decide +kernel
theorem dX5_restore_25 : decode cX5_restore 25 = .ok (.aload_n 0, 1) := by decide +kernel
theorem dX5_restore_26 : decode cX5_restore 26 = .ok (.getfield 19, 3) := by decide +kernel
theorem dX5_restore_29 : decode cX5_restore 29 = .ok (.invokevirtual 116, 3) := by decide +kernel
theorem dX5_restore_32 : decode cX5_restore 32 = .ok (.aload_n 0, 1) := by decide +kernel
theorem dX5_restore_33 : decode cX5_restore 33 = .ok (.getfield 10, 3) := by decide +kernel
theorem dX5_restore_36 : decode cX5_restore 36 = .ok (.getfield 126, 3) := by decide +kernel
theorem dX5_restore_39 : decode cX5_restore 39 = .ok (.getfield 130, 3) := by decide +kernel
theorem dX5_restore_42 : decode cX5_restore 42 = .ok (.ireturn, 1) := by decide +kernel
theorem dX5_judge_0 : decode cX5_judge 0 = .ok (.aload_n 0, 1) := by decide +kernel
theorem dX5_judge_1 : decode cX5_judge 1 = .ok (.getfield 10, 3) := by decide +kernel
theorem dX5_judge_4 : decode cX5_judge 4 = .ok (.getfield 48, 3) := by decide +kernel
theorem dX5_judge_7 : decode cX5_judge 7 = .ok (.iload_n 1, 1) := by decide +kernel
theorem dX5_judge_8 : decode cX5_judge 8 = .ok (.invokevirtual 176, 3) := by decide +kernel
theorem dX5_judge_11 : decode cX5_judge 11 = .ok (.ifCond .ne 6, 3) := by decide +kernel
theorem dX5_judge_14 : decode cX5_judge 14 = .ok (.bipush (-2), 2) := by decide +kernel
theorem dX5_judge_16 : decode cX5_judge 16 = .ok (.ireturn, 1) := by decide +kernel
theorem dX5_judge_17 : decode cX5_judge 17 = .ok (.aload_n 0, 1) := by decide +kernel
theorem dX5_judge_18 : decode cX5_judge 18 = .ok (.getfield 10, 3) := by decide +kernel
theorem dX5_judge_21 : decode cX5_judge 21 = .ok (.getfield 48, 3) := by decide +kernel
theorem dX5_judge_24 : decode cX5_judge 24 = .ok (.iload_n 1, 1) := by decide +kernel
theorem dX5_judge_25 : decode cX5_judge 25 = .ok (.invokevirtual 179, 3) := by decide +kernel
theorem dX5_judge_28 : decode cX5_judge 28 = .ok (.ireturn, 1) := by decide +kernel
theorem dX5_plan_0 : decode cX5_plan 0 = .ok (.aload_n 0, 1) := by decide +kernel
theorem dX5_plan_1 : decode cX5_plan 1 = .ok (.getfield 10, 3) := by decide +kernel
theorem dX5_plan_4 : decode cX5_plan 4 = .ok (.getfield 48, 3) := by decide +kernel
theorem dX5_plan_7 : decode cX5_plan 7 = .ok (.iload_n 1, 1) := by decide +kernel
theorem dX5_plan_8 : decode cX5_plan 8 = .ok (.invokevirtual 176, 3) := by decide +kernel
theorem dX5_plan_11 : decode cX5_plan 11 = .ok (.ifCond .eq 12, 3) := by decide +kernel
theorem dX5_plan_14 : decode cX5_plan 14 = .ok (.iload_n 2, 1) := by decide +kernel
theorem dX5_plan_15 : decode cX5_plan 15 = .ok (.ifCond .lt 8, 3) := by decide +kernel
theorem dX5_plan_18 : decode cX5_plan 18 = .ok (.iload_n 2, 1) := by decide +kernel
theorem dX5_plan_19 : decode cX5_plan 19 = .ok (.iconst 4, 1) := by decide +kernel
theorem dX5_plan_20 : decode cX5_plan 20 = .ok (.if_icmp .le 6, 3) := by decide +kernel
theorem dX5_plan_23 : decode cX5_plan 23 = .ok (.bipush (-2), 2) := by decide +kernel
theorem dX5_plan_25 : decode cX5_plan 25 = .ok (.ireturn, 1) := by decide +kernel
theorem dX5_plan_26 : decode cX5_plan 26 = .ok (.iload_n 2, 1) := by decide +kernel
theorem dX5_plan_27 : decode cX5_plan 27 = .ok (.ifCond .eq 8, 3) := by decide +kernel
theorem dX5_plan_30 : decode cX5_plan 30 = .ok (.iload_n 2, 1) := by decide +kernel
theorem dX5_plan_31 : decode cX5_plan 31 = .ok (.iconst 2, 1) := by decide +kernel
theorem dX5_plan_32 : decode cX5_plan 32 = .ok (.if_icmp .ne 7, 3) := by decide +kernel
theorem dX5_plan_35 : decode cX5_plan 35 = .ok (.iconst 1, 1) := by decide +kernel
theorem dX5_plan_36 : decode cX5_plan 36 = .ok (.goto 4, 3) := by decide +kernel
theorem dX5_plan_39 : decode cX5_plan 39 = .ok (.iconst 0, 1) := by decide +kernel
theorem dX5_plan_40 : decode cX5_plan 40 = .ok (.istore_n 3, 1) := by decide +kernel
theorem dX5_plan_41 : decode cX5_plan 41 = .ok (.iload_n 3, 1) := by decide +kernel
theorem dX5_plan_42 : decode cX5_plan 42 = .ok (.ifCond .eq 20, 3) := by decide +kernel
theorem dX5_plan_45 : decode cX5_plan 45 = .ok (.aload_n 0, 1) := by decide +kernel
theorem dX5_plan_46 : decode cX5_plan 46 = .ok (.getfield 10, 3) := by decide +kernel
theorem dX5_plan_49 : decode cX5_plan 49 = .ok (.getfield 48, 3) := by decide +kernel
theorem dX5_plan_52 : decode cX5_plan 52 = .ok (.iload_n 1, 1) := by decide +kernel
theorem dX5_plan_53 : decode cX5_plan 53 = .ok (.invokevirtual 182, 3) := by decide +kernel
theorem dX5_plan_56 : decode cX5_plan 56 = .ok (.ifCond .ne 6, 3) := by decide +kernel
theorem dX5_plan_59 : decode cX5_plan 59 = .ok (.bipush (-4), 2) := by decide +kernel
theorem dX5_plan_61 : decode cX5_plan 61 = .ok (.ireturn, 1) := by decide +kernel
theorem dX5_plan_62 : decode cX5_plan 62 = .ok (.iload_n 2, 1) := by decide +kernel
theorem dX5_plan_63 : decode cX5_plan 63 = .ok (.tableswitch 74 0 3 #[29, 41, 53, 65], 29) := by decide +kernel
theorem dX5_plan_92 : decode cX5_plan 92 = .ok (.aload_n 0, 1) := by decide +kernel
theorem dX5_plan_93 : decode cX5_plan 93 = .ok (.getfield 10, 3) := by decide +kernel
theorem dX5_plan_96 : decode cX5_plan 96 = .ok (.getfield 48, 3) := by decide +kernel
theorem dX5_plan_99 : decode cX5_plan 99 = .ok (.iload_n 1, 1) := by decide +kernel
theorem dX5_plan_100 : decode cX5_plan 100 = .ok (.invokevirtual 185, 3) := by decide +kernel
theorem dX5_plan_103 : decode cX5_plan 103 = .ok (.ireturn, 1) := by decide +kernel
theorem dX5_plan_104 : decode cX5_plan 104 = .ok (.aload_n 0, 1) := by decide +kernel
theorem dX5_plan_105 : decode cX5_plan 105 = .ok (.getfield 10, 3) := by decide +kernel
theorem dX5_plan_108 : decode cX5_plan 108 = .ok (.getfield 48, 3) := by decide +kernel
theorem dX5_plan_111 : decode cX5_plan 111 = .ok (.iload_n 1, 1) := by decide +kernel
theorem dX5_plan_112 : decode cX5_plan 112 = .ok (.invokevirtual 188, 3) := by decide +kernel
theorem dX5_plan_115 : decode cX5_plan 115 = .ok (.ireturn, 1) := by decide +kernel
theorem dX5_plan_116 : decode cX5_plan 116 = .ok (.aload_n 0, 1) := by decide +kernel
theorem dX5_plan_117 : decode cX5_plan 117 = .ok (.getfield 10, 3) := by decide +kernel
theorem dX5_plan_120 : decode cX5_plan 120 = .ok (.getfield 48, 3) := by decide +kernel
theorem dX5_plan_123 : decode cX5_plan 123 = .ok (.iload_n 1, 1) := by decide +kernel
theorem dX5_plan_124 : decode cX5_plan 124 = .ok (.invokevirtual 191, 3) := by decide +kernel
theorem dX5_plan_127 : decode cX5_plan 127 = .ok (.ireturn, 1) := by decide +kernel
theorem dX5_plan_128 : decode cX5_plan 128 = .ok (.aload_n 0, 1) := by decide +kernel
theorem dX5_plan_129 : decode cX5_plan 129 = .ok (.getfield 10, 3) := by decide +kernel
theorem dX5_plan_132 : decode cX5_plan 132 = .ok (.iload_n 1, 1) := by decide +kernel
theorem dX5_plan_133 : decode cX5_plan 133 = .ok (.invokevirtual 194, 3) := by decide +kernel
theorem dX5_plan_136 : decode cX5_plan 136 = .ok (.ireturn, 1) := by decide +kernel
theorem dX5_plan_137 : decode cX5_plan 137 = .ok (.aload_n 0, 1) := by decide +kernel
theorem dX5_plan_138 : decode cX5_plan 138 = .ok (.getfield 10, 3) := by decide +kernel
theorem dX5_plan_141 : decode cX5_plan 141 = .ok (.getfield 126, 3) := by decide +kernel
theorem dX5_plan_144 : decode cX5_plan 144 = .ok (.iload_n 1, 1) := by decide +kernel
theorem dX5_plan_145 : decode cX5_plan 145 = .ok (.invokevirtual 197, 3) := by decide +kernel
theorem dX5_plan_148 : decode cX5_plan 148 = .ok (.ireturn, 1) := by decide +kernel
theorem dX5_serves_0 : decode cX5_serves 0 = .ok (.aload_n 0, 1) := by decide +kernel
theorem dX5_serves_1 : decode cX5_serves 1 = .ok (.getfield 10, 3) := by decide +kernel
theorem dX5_serves_4 : decode cX5_serves 4 = .ok (.getfield 48, 3) := by decide +kernel
theorem dX5_serves_7 : decode cX5_serves 7 = .ok (.iload_n 1, 1) := by decide +kernel
theorem dX5_serves_8 : decode cX5_serves 8 = .ok (.invokevirtual 176, 3) := by decide +kernel
theorem dX5_serves_11 : decode cX5_serves 11 = .ok (.ifCond .ne 6, 3) := by decide +kernel
theorem dX5_serves_14 : decode cX5_serves 14 = .ok (.bipush (-2), 2) := by decide +kernel
theorem dX5_serves_16 : decode cX5_serves 16 = .ok (.ireturn, 1) := by decide +kernel
theorem dX5_serves_17 : decode cX5_serves 17 = .ok (.aload_n 0, 1) := by decide +kernel
theorem dX5_serves_18 : decode cX5_serves 18 = .ok (.getfield 10, 3) := by decide +kernel
theorem dX5_serves_21 : decode cX5_serves 21 = .ok (.getfield 48, 3) := by decide +kernel
theorem dX5_serves_24 : decode cX5_serves 24 = .ok (.iload_n 2, 1) := by decide +kernel
theorem dX5_serves_25 : decode cX5_serves 25 = .ok (.invokevirtual 84, 3) := by decide +kernel
theorem dX5_serves_28 : decode cX5_serves 28 = .ok (.ifCond .ne 5, 3) := by decide +kernel
theorem dX5_serves_31 : decode cX5_serves 31 = .ok (.iconst (-1), 1) := by decide +kernel
theorem dX5_serves_32 : decode cX5_serves 32 = .ok (.ireturn, 1) := by decide +kernel
theorem dX5_serves_33 : decode cX5_serves 33 = .ok (.aload_n 0, 1) := by decide +kernel
theorem dX5_serves_34 : decode cX5_serves 34 = .ok (.getfield 10, 3) := by decide +kernel
theorem dX5_serves_37 : decode cX5_serves 37 = .ok (.getfield 48, 3) := by decide +kernel
theorem dX5_serves_40 : decode cX5_serves 40 = .ok (.iload_n 1, 1) := by decide +kernel
theorem dX5_serves_41 : decode cX5_serves 41 = .ok (.iload_n 2, 1) := by decide +kernel
theorem dX5_serves_42 : decode cX5_serves 42 = .ok (.invokevirtual 200, 3) := by decide +kernel
theorem dX5_serves_45 : decode cX5_serves 45 = .ok (.istore_n 3, 1) := by decide +kernel
theorem dX5_serves_46 : decode cX5_serves 46 = .ok (.iload_n 3, 1) := by decide +kernel
theorem dX5_serves_47 : decode cX5_serves 47 = .ok (.iconst (-1), 1) := by decide +kernel
theorem dX5_serves_48 : decode cX5_serves 48 = .ok (.if_icmp .ne 8, 3) := by decide +kernel
theorem dX5_serves_51 : decode cX5_serves 51 = .ok (.bipush (-5), 2) := by decide +kernel
theorem dX5_serves_53 : decode cX5_serves 53 = .ok (.goto 4, 3) := by decide +kernel
theorem dX5_serves_56 : decode cX5_serves 56 = .ok (.iload_n 3, 1) := by decide +kernel
theorem dX5_serves_57 : decode cX5_serves 57 = .ok (.ireturn, 1) := by decide +kernel
theorem dX5_cut_0 : decode cX5_cut 0 = .ok (.aload_n 0, 1) := by decide +kernel
theorem dX5_cut_1 : decode cX5_cut 1 = .ok (.getfield 10, 3) := by decide +kernel
theorem dX5_cut_4 : decode cX5_cut 4 = .ok (.getfield 126, 3) := by decide +kernel
theorem dX5_cut_7 : decode cX5_cut 7 = .ok (.iload_n 1, 1) := by decide +kernel
theorem dX5_cut_8 : decode cX5_cut 8 = .ok (.invokevirtual 147, 3) := by decide +kernel
theorem dX5_cut_11 : decode cX5_cut 11 = .ok (.ifCond .ne 5, 3) := by decide +kernel
theorem dX5_cut_14 : decode cX5_cut 14 = .ok (.iconst (-1), 1) := by decide +kernel
theorem dX5_cut_15 : decode cX5_cut 15 = .ok (.ireturn, 1) := by decide +kernel
theorem dX5_cut_16 : decode cX5_cut 16 = .ok (.iload_n 2, 1) := by decide +kernel
theorem dX5_cut_17 : decode cX5_cut 17 = .ok (.tableswitch 118 0 4 #[35, 55, 87, 100, 109], 35) := by decide +kernel
theorem dX5_cut_52 : decode cX5_cut 52 = .ok (.aload_n 0, 1) := by decide +kernel
theorem dX5_cut_53 : decode cX5_cut 53 = .ok (.getfield 10, 3) := by decide +kernel
theorem dX5_cut_56 : decode cX5_cut 56 = .ok (.getfield 126, 3) := by decide +kernel
theorem dX5_cut_59 : decode cX5_cut 59 = .ok (.iload_n 1, 1) := by decide +kernel
theorem dX5_cut_60 : decode cX5_cut 60 = .ok (.invokevirtual 204, 3) := by decide +kernel
theorem dX5_cut_63 : decode cX5_cut 63 = .ok (.ifCond .eq 7, 3) := by decide +kernel
theorem dX5_cut_66 : decode cX5_cut 66 = .ok (.iconst 0, 1) := by decide +kernel
theorem dX5_cut_67 : decode cX5_cut 67 = .ok (.goto 4, 3) := by decide +kernel
theorem dX5_cut_70 : decode cX5_cut 70 = .ok (.iconst 1, 1) := by decide +kernel
theorem dX5_cut_71 : decode cX5_cut 71 = .ok (.ireturn, 1) := by decide +kernel
theorem dX5_cut_72 : decode cX5_cut 72 = .ok (.aload_n 0, 1) := by decide +kernel
theorem dX5_cut_73 : decode cX5_cut 73 = .ok (.getfield 10, 3) := by decide +kernel
theorem dX5_cut_76 : decode cX5_cut 76 = .ok (.getfield 126, 3) := by decide +kernel
theorem dX5_cut_79 : decode cX5_cut 79 = .ok (.iload_n 1, 1) := by decide +kernel
theorem dX5_cut_80 : decode cX5_cut 80 = .ok (.invokevirtual 204, 3) := by decide +kernel
theorem dX5_cut_83 : decode cX5_cut 83 = .ok (.ifCond .eq 18, 3) := by decide +kernel
theorem dX5_cut_86 : decode cX5_cut 86 = .ok (.aload_n 0, 1) := by decide +kernel
theorem dX5_cut_87 : decode cX5_cut 87 = .ok (.getfield 10, 3) := by decide +kernel
theorem dX5_cut_90 : decode cX5_cut 90 = .ok (.getfield 126, 3) := by decide +kernel
theorem dX5_cut_93 : decode cX5_cut 93 = .ok (.getfield 207, 3) := by decide +kernel
theorem dX5_cut_96 : decode cX5_cut 96 = .ok (.iload_n 1, 1) := by decide +kernel
theorem dX5_cut_97 : decode cX5_cut 97 = .ok (.iaload, 1) := by decide +kernel
theorem dX5_cut_98 : decode cX5_cut 98 = .ok (.goto 5, 3) := by decide +kernel
theorem dX5_cut_101 : decode cX5_cut 101 = .ok (.bipush (-5), 2) := by decide +kernel
theorem dX5_cut_103 : decode cX5_cut 103 = .ok (.ireturn, 1) := by decide +kernel
theorem dX5_cut_104 : decode cX5_cut 104 = .ok (.aload_n 0, 1) := by decide +kernel
theorem dX5_cut_105 : decode cX5_cut 105 = .ok (.getfield 10, 3) := by decide +kernel
theorem dX5_cut_108 : decode cX5_cut 108 = .ok (.getfield 126, 3) := by decide +kernel
theorem dX5_cut_111 : decode cX5_cut 111 = .ok (.getfield 210, 3) := by decide +kernel
theorem dX5_cut_114 : decode cX5_cut 114 = .ok (.iload_n 1, 1) := by decide +kernel
theorem dX5_cut_115 : decode cX5_cut 115 = .ok (.iaload, 1) := by decide +kernel
theorem dX5_cut_116 : decode cX5_cut 116 = .ok (.ireturn, 1) := by decide +kernel
theorem dX5_cut_117 : decode cX5_cut 117 = .ok (.aload_n 0, 1) := by decide +kernel
theorem dX5_cut_118 : decode cX5_cut 118 = .ok (.getfield 10, 3) := by decide +kernel
theorem dX5_cut_121 : decode cX5_cut 121 = .ok (.iload_n 1, 1) := by decide +kernel
theorem dX5_cut_122 : decode cX5_cut 122 = .ok (.invokevirtual 213, 3) := by decide +kernel
theorem dX5_cut_125 : decode cX5_cut 125 = .ok (.ireturn, 1) := by decide +kernel
theorem dX5_cut_126 : decode cX5_cut 126 = .ok (.aload_n 0, 1) := by decide +kernel
theorem dX5_cut_127 : decode cX5_cut 127 = .ok (.getfield 10, 3) := by decide +kernel
theorem dX5_cut_130 : decode cX5_cut 130 = .ok (.iload_n 1, 1) := by decide +kernel
theorem dX5_cut_131 : decode cX5_cut 131 = .ok (.invokevirtual 216, 3) := by decide +kernel
theorem dX5_cut_134 : decode cX5_cut 134 = .ok (.ireturn, 1) := by decide +kernel
theorem dX5_cut_135 : decode cX5_cut 135 = .ok (.bipush (-2), 2) := by decide +kernel
theorem dX5_cut_137 : decode cX5_cut 137 = .ok (.ireturn, 1) := by decide +kernel
theorem dX5_weight_0 : decode cX5_weight 0 = .ok (.aload_n 0, 1) := by decide +kernel
theorem dX5_weight_1 : decode cX5_weight 1 = .ok (.getfield 10, 3) := by decide +kernel
theorem dX5_weight_4 : decode cX5_weight 4 = .ok (.getfield 126, 3) := by decide +kernel
theorem dX5_weight_7 : decode cX5_weight 7 = .ok (.iload_n 1, 1) := by decide +kernel
theorem dX5_weight_8 : decode cX5_weight 8 = .ok (.invokevirtual 147, 3) := by decide +kernel
theorem dX5_weight_11 : decode cX5_weight 11 = .ok (.ifCond .eq 17, 3) := by decide +kernel
theorem dX5_weight_14 : decode cX5_weight 14 = .ok (.aload_n 0, 1) := by decide +kernel
theorem dX5_weight_15 : decode cX5_weight 15 = .ok (.getfield 10, 3) := by decide +kernel
theorem dX5_weight_18 : decode cX5_weight 18 = .ok (.getfield 48, 3) := by decide +kernel
theorem dX5_weight_21 : decode cX5_weight 21 = .ok (.iload_n 2, 1) := by decide +kernel
theorem dX5_weight_22 : decode cX5_weight 22 = .ok (.invokevirtual 78, 3) := by decide +kernel
theorem dX5_weight_25 : decode cX5_weight 25 = .ok (.ifCond .ne 5, 3) := by decide +kernel
theorem dX5_weight_28 : decode cX5_weight 28 = .ok (.iconst (-1), 1) := by decide +kernel
theorem dX5_weight_29 : decode cX5_weight 29 = .ok (.ireturn, 1) := by decide +kernel
theorem dX5_weight_30 : decode cX5_weight 30 = .ok (.aload_n 0, 1) := by decide +kernel
theorem dX5_weight_31 : decode cX5_weight 31 = .ok (.getfield 10, 3) := by decide +kernel
theorem dX5_weight_34 : decode cX5_weight 34 = .ok (.getfield 126, 3) := by decide +kernel
theorem dX5_weight_37 : decode cX5_weight 37 = .ok (.getfield 219, 3) := by decide +kernel
theorem dX5_weight_40 : decode cX5_weight 40 = .ok (.iload_n 1, 1) := by decide +kernel
theorem dX5_weight_41 : decode cX5_weight 41 = .ok (.aaload, 1) := by decide +kernel
theorem dX5_weight_42 : decode cX5_weight 42 = .ok (.iload_n 2, 1) := by decide +kernel
theorem dX5_weight_43 : decode cX5_weight 43 = .ok (.iaload, 1) := by decide +kernel
theorem dX5_weight_44 : decode cX5_weight 44 = .ok (.ireturn, 1) := by decide +kernel
theorem dX5_value_0 : decode cX5_value 0 = .ok (.aload_n 0, 1) := by decide +kernel
theorem dX5_value_1 : decode cX5_value 1 = .ok (.getfield 10, 3) := by decide +kernel
theorem dX5_value_4 : decode cX5_value 4 = .ok (.getfield 126, 3) := by decide +kernel
theorem dX5_value_7 : decode cX5_value 7 = .ok (.iload_n 1, 1) := by decide +kernel
theorem dX5_value_8 : decode cX5_value 8 = .ok (.invokevirtual 147, 3) := by decide +kernel
theorem dX5_value_11 : decode cX5_value 11 = .ok (.ifCond .ne 5, 3) := by decide +kernel
theorem dX5_value_14 : decode cX5_value 14 = .ok (.iconst (-1), 1) := by decide +kernel
theorem dX5_value_15 : decode cX5_value 15 = .ok (.ireturn, 1) := by decide +kernel
theorem dX5_value_16 : decode cX5_value 16 = .ok (.aload_n 0, 1) := by decide +kernel
theorem dX5_value_17 : decode cX5_value 17 = .ok (.getfield 10, 3) := by decide +kernel
theorem dX5_value_20 : decode cX5_value 20 = .ok (.getfield 48, 3) := by decide +kernel
theorem dX5_value_23 : decode cX5_value 23 = .ok (.iload_n 2, 1) := by decide +kernel
theorem dX5_value_24 : decode cX5_value 24 = .ok (.invokevirtual 176, 3) := by decide +kernel
theorem dX5_value_27 : decode cX5_value 27 = .ok (.ifCond .ne 6, 3) := by decide +kernel
theorem dX5_value_30 : decode cX5_value 30 = .ok (.bipush (-2), 2) := by decide +kernel
theorem dX5_value_32 : decode cX5_value 32 = .ok (.ireturn, 1) := by decide +kernel
theorem dX5_value_33 : decode cX5_value 33 = .ok (.aload_n 0, 1) := by decide +kernel
theorem dX5_value_34 : decode cX5_value 34 = .ok (.getfield 10, 3) := by decide +kernel
theorem dX5_value_37 : decode cX5_value 37 = .ok (.getfield 126, 3) := by decide +kernel
theorem dX5_value_40 : decode cX5_value 40 = .ok (.iload_n 1, 1) := by decide +kernel
theorem dX5_value_41 : decode cX5_value 41 = .ok (.invokevirtual 204, 3) := by decide +kernel
theorem dX5_value_44 : decode cX5_value 44 = .ok (.ifCond .eq 16, 3) := by decide +kernel
theorem dX5_value_47 : decode cX5_value 47 = .ok (.aload_n 0, 1) := by decide +kernel
theorem dX5_value_48 : decode cX5_value 48 = .ok (.getfield 10, 3) := by decide +kernel
theorem dX5_value_51 : decode cX5_value 51 = .ok (.getfield 126, 3) := by decide +kernel
theorem dX5_value_54 : decode cX5_value 54 = .ok (.iload_n 1, 1) := by decide +kernel
theorem dX5_value_55 : decode cX5_value 55 = .ok (.iload_n 2, 1) := by decide +kernel
theorem dX5_value_56 : decode cX5_value 56 = .ok (.invokevirtual 222, 3) := by decide +kernel
theorem dX5_value_59 : decode cX5_value 59 = .ok (.ireturn, 1) := by decide +kernel
theorem dX5_value_60 : decode cX5_value 60 = .ok (.aload_n 0, 1) := by decide +kernel
theorem dX5_value_61 : decode cX5_value 61 = .ok (.getfield 10, 3) := by decide +kernel
theorem dX5_value_64 : decode cX5_value 64 = .ok (.getfield 126, 3) := by decide +kernel
theorem dX5_value_67 : decode cX5_value 67 = .ok (.iload_n 1, 1) := by decide +kernel
theorem dX5_value_68 : decode cX5_value 68 = .ok (.iload_n 2, 1) := by decide +kernel
theorem dX5_value_69 : decode cX5_value 69 = .ok (.invokevirtual 225, 3) := by decide +kernel
theorem dX5_value_72 : decode cX5_value 72 = .ok (.ldc 228, 2) := by decide +kernel
theorem dX5_value_74 : decode cX5_value 74 = .ok (.iadd, 1) := by decide +kernel
theorem dX5_value_75 : decode cX5_value 75 = .ok (.ireturn, 1) := by decide +kernel
theorem dX5_master_0 : decode cX5_master 0 = .ok (.iload_n 1, 1) := by decide +kernel
theorem dX5_master_1 : decode cX5_master 1 = .ok (.tableswitch 79 0 4 #[35, 46, 51, 62, 74], 35) := by decide +kernel
theorem dX5_master_36 : decode cX5_master 36 = .ok (.aload_n 0, 1) := by decide +kernel
theorem dX5_master_37 : decode cX5_master 37 = .ok (.getfield 10, 3) := by decide +kernel
theorem dX5_master_40 : decode cX5_master 40 = .ok (.invokevirtual 154, 3) := by decide +kernel
theorem dX5_master_43 : decode cX5_master 43 = .ok (.invokestatic 229, 3) := by decide +kernel
theorem dX5_master_46 : decode cX5_master 46 = .ok (.ireturn, 1) := by decide +kernel
theorem dX5_master_47 : decode cX5_master 47 = .ok (.aload_n 0, 1) := by decide +kernel
theorem dX5_master_48 : decode cX5_master 48 = .ok (.invokevirtual 232, 3) := by decide +kernel
theorem dX5_master_51 : decode cX5_master 51 = .ok (.ireturn, 1) := by decide +kernel
theorem dX5_master_52 : decode cX5_master 52 = .ok (.aload_n 0, 1) := by decide +kernel
theorem dX5_master_53 : decode cX5_master 53 = .ok (.getfield 10, 3) := by decide +kernel
theorem dX5_master_56 : decode cX5_master 56 = .ok (.getfield 235, 3) := by decide +kernel
theorem dX5_master_59 : decode cX5_master 59 = .ok (.invokestatic 229, 3) := by decide +kernel
theorem dX5_master_62 : decode cX5_master 62 = .ok (.ireturn, 1) := by decide +kernel
theorem dX5_master_63 : decode cX5_master 63 = .ok (.aload_n 0, 1) := by decide +kernel
theorem dX5_master_64 : decode cX5_master 64 = .ok (.aload_n 0, 1) := by decide +kernel
theorem dX5_master_65 : decode cX5_master 65 = .ok (.getfield 10, 3) := by decide +kernel
theorem dX5_master_68 : decode cX5_master 68 = .ok (.getfield 235, 3) := by decide +kernel
theorem dX5_master_71 : decode cX5_master 71 = .ok (.invokevirtual 238, 3) := by decide +kernel
theorem dX5_master_74 : decode cX5_master 74 = .ok (.ireturn, 1) := by decide +kernel
theorem dX5_master_75 : decode cX5_master 75 = .ok (.aload_n 0, 1) := by decide +kernel
theorem dX5_master_76 : decode cX5_master 76 = .ok (.invokevirtual 241, 3) := by decide +kernel
theorem dX5_master_79 : decode cX5_master 79 = .ok (.ireturn, 1) := by decide +kernel
theorem dX5_master_80 : decode cX5_master 80 = .ok (.bipush (-2), 2) := by decide +kernel
theorem dX5_master_82 : decode cX5_master 82 = .ok (.ireturn, 1) := by decide +kernel
theorem dX5_byAll_0 : decode cX5_byAll 0 = .ok (.iload_n 1, 1) := by decide +kernel
theorem dX5_byAll_1 : decode cX5_byAll 1 = .ok (.tableswitch 67 0 2 #[27, 41, 56], 27) := by decide +kernel
theorem dX5_byAll_28 : decode cX5_byAll 28 = .ok (.aload_n 0, 1) := by decide +kernel
theorem dX5_byAll_29 : decode cX5_byAll 29 = .ok (.getfield 10, 3) := by decide +kernel
theorem dX5_byAll_32 : decode cX5_byAll 32 = .ok (.getfield 48, 3) := by decide +kernel
theorem dX5_byAll_35 : decode cX5_byAll 35 = .ok (.invokevirtual 244, 3) := by decide +kernel
theorem dX5_byAll_38 : decode cX5_byAll 38 = .ok (.invokestatic 229, 3) := by decide +kernel
theorem dX5_byAll_41 : decode cX5_byAll 41 = .ok (.ireturn, 1) := by decide +kernel
theorem dX5_byAll_42 : decode cX5_byAll 42 = .ok (.aload_n 0, 1) := by decide +kernel
theorem dX5_byAll_43 : decode cX5_byAll 43 = .ok (.aload_n 0, 1) := by decide +kernel
theorem dX5_byAll_44 : decode cX5_byAll 44 = .ok (.getfield 10, 3) := by decide +kernel
theorem dX5_byAll_47 : decode cX5_byAll 47 = .ok (.getfield 48, 3) := by decide +kernel
theorem dX5_byAll_50 : decode cX5_byAll 50 = .ok (.invokevirtual 244, 3) := by decide +kernel
theorem dX5_byAll_53 : decode cX5_byAll 53 = .ok (.invokevirtual 238, 3) := by decide +kernel
theorem dX5_byAll_56 : decode cX5_byAll 56 = .ok (.ireturn, 1) := by decide +kernel
theorem dX5_byAll_57 : decode cX5_byAll 57 = .ok (.aload_n 0, 1) := by decide +kernel
theorem dX5_byAll_58 : decode cX5_byAll 58 = .ok (.getfield 10, 3) := by decide +kernel
theorem dX5_byAll_61 : decode cX5_byAll 61 = .ok (.getfield 48, 3) := by decide +kernel
theorem dX5_byAll_64 : decode cX5_byAll 64 = .ok (.invokevirtual 247, 3) := by decide +kernel
theorem dX5_byAll_67 : decode cX5_byAll 67 = .ok (.ireturn, 1) := by decide +kernel
theorem dX5_byAll_68 : decode cX5_byAll 68 = .ok (.bipush (-2), 2) := by decide +kernel
theorem dX5_byAll_70 : decode cX5_byAll 70 = .ok (.ireturn, 1) := by decide +kernel
theorem dX5_count_0 : decode cX5_count 0 = .ok (.iload_n 1, 1) := by decide +kernel
theorem dX5_count_1 : decode cX5_count 1 = .ok (.tableswitch 156 0 9 #[55, 66, 77, 88, 99, 110, 121, 132, 140, 148], 55) := by decide +kernel
theorem dX5_count_56 : decode cX5_count 56 = .ok (.aload_n 0, 1) := by decide +kernel
theorem dX5_count_57 : decode cX5_count 57 = .ok (.getfield 10, 3) := by decide +kernel
theorem dX5_count_60 : decode cX5_count 60 = .ok (.getfield 48, 3) := by decide +kernel
theorem dX5_count_63 : decode cX5_count 63 = .ok (.getfield 52, 3) := by decide +kernel
theorem dX5_count_66 : decode cX5_count 66 = .ok (.ireturn, 1) := by decide +kernel
theorem dX5_count_67 : decode cX5_count 67 = .ok (.aload_n 0, 1) := by decide +kernel
theorem dX5_count_68 : decode cX5_count 68 = .ok (.getfield 10, 3) := by decide +kernel
theorem dX5_count_71 : decode cX5_count 71 = .ok (.getfield 48, 3) := by decide +kernel
theorem dX5_count_74 : decode cX5_count 74 = .ok (.getfield 72, 3) := by decide +kernel
theorem dX5_count_77 : decode cX5_count 77 = .ok (.ireturn, 1) := by decide +kernel
theorem dX5_count_78 : decode cX5_count 78 = .ok (.aload_n 0, 1) := by decide +kernel
theorem dX5_count_79 : decode cX5_count 79 = .ok (.getfield 10, 3) := by decide +kernel
theorem dX5_count_82 : decode cX5_count 82 = .ok (.getfield 48, 3) := by decide +kernel
theorem dX5_count_85 : decode cX5_count 85 = .ok (.invokevirtual 250, 3) := by decide +kernel
theorem dX5_count_88 : decode cX5_count 88 = .ok (.ireturn, 1) := by decide +kernel
theorem dX5_count_89 : decode cX5_count 89 = .ok (.aload_n 0, 1) := by decide +kernel
theorem dX5_count_90 : decode cX5_count 90 = .ok (.getfield 10, 3) := by decide +kernel
theorem dX5_count_93 : decode cX5_count 93 = .ok (.getfield 48, 3) := by decide +kernel
theorem dX5_count_96 : decode cX5_count 96 = .ok (.getfield 94, 3) := by decide +kernel
theorem dX5_count_99 : decode cX5_count 99 = .ok (.ireturn, 1) := by decide +kernel
theorem dX5_count_100 : decode cX5_count 100 = .ok (.aload_n 0, 1) := by decide +kernel
theorem dX5_count_101 : decode cX5_count 101 = .ok (.getfield 10, 3) := by decide +kernel
theorem dX5_count_104 : decode cX5_count 104 = .ok (.getfield 48, 3) := by decide +kernel
theorem dX5_count_107 : decode cX5_count 107 = .ok (.invokevirtual 253, 3) := by decide +kernel
theorem dX5_count_110 : decode cX5_count 110 = .ok (.ireturn, 1) := by decide +kernel
theorem dX5_count_111 : decode cX5_count 111 = .ok (.aload_n 0, 1) := by decide +kernel
theorem dX5_count_112 : decode cX5_count 112 = .ok (.getfield 10, 3) := by decide +kernel
theorem dX5_count_115 : decode cX5_count 115 = .ok (.getfield 126, 3) := by decide +kernel
theorem dX5_count_118 : decode cX5_count 118 = .ok (.getfield 130, 3) := by decide +kernel
theorem dX5_count_121 : decode cX5_count 121 = .ok (.ireturn, 1) := by decide +kernel
theorem dX5_count_122 : decode cX5_count 122 = .ok (.aload_n 0, 1) := by decide +kernel
theorem dX5_count_123 : decode cX5_count 123 = .ok (.getfield 10, 3) := by decide +kernel
theorem dX5_count_126 : decode cX5_count 126 = .ok (.getfield 126, 3) := by decide +kernel
theorem dX5_count_129 : decode cX5_count 129 = .ok (.invokevirtual 256, 3) := by decide +kernel
theorem dX5_count_132 : decode cX5_count 132 = .ok (.ireturn, 1) := by decide +kernel
theorem dX5_count_133 : decode cX5_count 133 = .ok (.aload_n 0, 1) := by decide +kernel
theorem dX5_count_134 : decode cX5_count 134 = .ok (.getfield 10, 3) := by decide +kernel
theorem dX5_count_137 : decode cX5_count 137 = .ok (.getfield 259, 3) := by decide +kernel
theorem dX5_count_140 : decode cX5_count 140 = .ok (.ireturn, 1) := by decide +kernel
theorem dX5_count_141 : decode cX5_count 141 = .ok (.aload_n 0, 1) := by decide +kernel
theorem dX5_count_142 : decode cX5_count 142 = .ok (.getfield 29, 3) := by decide +kernel
theorem dX5_count_145 : decode cX5_count 145 = .ok (.getfield 172, 3) := by decide +kernel
theorem dX5_count_148 : decode cX5_count 148 = .ok (.ireturn, 1) := by decide +kernel
theorem dX5_count_149 : decode cX5_count 149 = .ok (.aload_n 0, 1) := by decide +kernel
theorem dX5_count_150 : decode cX5_count 150 = .ok (.getfield 36, 3) := by decide +kernel
theorem dX5_count_153 : decode cX5_count 153 = .ok (.getfield 169, 3) := by decide +kernel
theorem dX5_count_156 : decode cX5_count 156 = .ok (.ireturn, 1) := by decide +kernel
theorem dX5_count_157 : decode cX5_count 157 = .ok (.bipush (-2), 2) := by decide +kernel
theorem dX5_count_159 : decode cX5_count 159 = .ok (.ireturn, 1) := by decide +kernel
theorem dX5_lowerBound_0 : decode cX5_lowerBound 0 = .ok (.aload_n 0, 1) := by decide +kernel
theorem dX5_lowerBound_1 : decode cX5_lowerBound 1 = .ok (.getfield 10, 3) := by decide +kernel
theorem dX5_lowerBound_4 : decode cX5_lowerBound 4 = .ok (.invokevirtual 154, 3) := by decide +kernel
theorem dX5_lowerBound_7 : decode cX5_lowerBound 7 = .ok (.istore_n 1, 1) := by decide +kernel
theorem dX5_lowerBound_8 : decode cX5_lowerBound 8 = .ok (.iload_n 1, 1) := by decide +kernel
theorem dX5_lowerBound_9 : decode cX5_lowerBound 9 = .ok (.iconst (-1), 1) := by decide +kernel
theorem dX5_lowerBound_10 : decode cX5_lowerBound 10 = .ok (.if_icmp .ne 8, 3) := by decide +kernel
theorem dX5_lowerBound_13 : decode cX5_lowerBound 13 = .ok (.bipush (-5), 2) := by decide +kernel
theorem dX5_lowerBound_15 : decode cX5_lowerBound 15 = .ok (.goto 11, 3) := by decide +kernel
theorem dX5_lowerBound_18 : decode cX5_lowerBound 18 = .ok (.aload_n 0, 1) := by decide +kernel
theorem dX5_lowerBound_19 : decode cX5_lowerBound 19 = .ok (.getfield 10, 3) := by decide +kernel
theorem dX5_lowerBound_22 : decode cX5_lowerBound 22 = .ok (.iload_n 1, 1) := by decide +kernel
theorem dX5_lowerBound_23 : decode cX5_lowerBound 23 = .ok (.invokevirtual 194, 3) := by decide +kernel
theorem dX5_lowerBound_26 : decode cX5_lowerBound 26 = .ok (.ireturn, 1) := by decide +kernel
theorem dX5_costOrNone_0 : decode cX5_costOrNone 0 = .ok (.iload_n 1, 1) := by decide +kernel
theorem dX5_costOrNone_1 : decode cX5_costOrNone 1 = .ok (.iconst (-1), 1) := by decide +kernel
theorem dX5_costOrNone_2 : decode cX5_costOrNone 2 = .ok (.if_icmp .ne 8, 3) := by decide +kernel
theorem dX5_costOrNone_5 : decode cX5_costOrNone 5 = .ok (.bipush (-5), 2) := by decide +kernel
theorem dX5_costOrNone_7 : decode cX5_costOrNone 7 = .ok (.goto 14, 3) := by decide +kernel
theorem dX5_costOrNone_10 : decode cX5_costOrNone 10 = .ok (.aload_n 0, 1) := by decide +kernel
theorem dX5_costOrNone_11 : decode cX5_costOrNone 11 = .ok (.getfield 10, 3) := by decide +kernel
theorem dX5_costOrNone_14 : decode cX5_costOrNone 14 = .ok (.getfield 48, 3) := by decide +kernel
theorem dX5_costOrNone_17 : decode cX5_costOrNone 17 = .ok (.iload_n 1, 1) := by decide +kernel
theorem dX5_costOrNone_18 : decode cX5_costOrNone 18 = .ok (.invokevirtual 185, 3) := by decide +kernel
theorem dX5_costOrNone_21 : decode cX5_costOrNone 21 = .ok (.ireturn, 1) := by decide +kernel
theorem dX5_gap_0 : decode cX5_gap 0 = .ok (.aload_n 0, 1) := by decide +kernel
theorem dX5_gap_1 : decode cX5_gap 1 = .ok (.getfield 10, 3) := by decide +kernel
theorem dX5_gap_4 : decode cX5_gap 4 = .ok (.invokevirtual 154, 3) := by decide +kernel
theorem dX5_gap_7 : decode cX5_gap 7 = .ok (.istore_n 1, 1) := by decide +kernel
theorem dX5_gap_8 : decode cX5_gap 8 = .ok (.iload_n 1, 1) := by decide +kernel
theorem dX5_gap_9 : decode cX5_gap 9 = .ok (.iconst (-1), 1) := by decide +kernel
theorem dX5_gap_10 : decode cX5_gap 10 = .ok (.if_icmp .eq 14, 3) := by decide +kernel
theorem dX5_gap_13 : decode cX5_gap 13 = .ok (.aload_n 0, 1) := by decide +kernel
theorem dX5_gap_14 : decode cX5_gap 14 = .ok (.getfield 10, 3) := by decide +kernel
theorem dX5_gap_17 : decode cX5_gap 17 = .ok (.getfield 235, 3) := by decide +kernel
theorem dX5_gap_20 : decode cX5_gap 20 = .ok (.iconst (-1), 1) := by decide +kernel
theorem dX5_gap_21 : decode cX5_gap 21 = .ok (.if_icmp .ne 6, 3) := by decide +kernel
theorem dX5_gap_24 : decode cX5_gap 24 = .ok (.bipush (-5), 2) := by decide +kernel
theorem dX5_gap_26 : decode cX5_gap 26 = .ok (.ireturn, 1) := by decide +kernel
theorem dX5_gap_27 : decode cX5_gap 27 = .ok (.aload_n 0, 1) := by decide +kernel
theorem dX5_gap_28 : decode cX5_gap 28 = .ok (.getfield 10, 3) := by decide +kernel
theorem dX5_gap_31 : decode cX5_gap 31 = .ok (.getfield 48, 3) := by decide +kernel
theorem dX5_gap_34 : decode cX5_gap 34 = .ok (.aload_n 0, 1) := by decide +kernel
theorem dX5_gap_35 : decode cX5_gap 35 = .ok (.getfield 10, 3) := by decide +kernel
theorem dX5_gap_38 : decode cX5_gap 38 = .ok (.getfield 235, 3) := by decide +kernel
theorem dX5_gap_41 : decode cX5_gap 41 = .ok (.invokevirtual 185, 3) := by decide +kernel
theorem dX5_gap_44 : decode cX5_gap 44 = .ok (.aload_n 0, 1) := by decide +kernel
theorem dX5_gap_45 : decode cX5_gap 45 = .ok (.getfield 10, 3) := by decide +kernel
theorem dX5_gap_48 : decode cX5_gap 48 = .ok (.iload_n 1, 1) := by decide +kernel
theorem dX5_gap_49 : decode cX5_gap 49 = .ok (.invokevirtual 194, 3) := by decide +kernel
theorem dX5_gap_52 : decode cX5_gap 52 = .ok (.isub, 1) := by decide +kernel
theorem dX5_gap_53 : decode cX5_gap 53 = .ok (.ireturn, 1) := by decide +kernel
theorem dX5_planOrNone_0 : decode cX5_planOrNone 0 = .ok (.iload_n 0, 1) := by decide +kernel
theorem dX5_planOrNone_1 : decode cX5_planOrNone 1 = .ok (.iconst (-1), 1) := by decide +kernel
theorem dX5_planOrNone_2 : decode cX5_planOrNone 2 = .ok (.if_icmp .ne 8, 3) := by decide +kernel
theorem dX5_planOrNone_5 : decode cX5_planOrNone 5 = .ok (.bipush (-5), 2) := by decide +kernel
theorem dX5_planOrNone_7 : decode cX5_planOrNone 7 = .ok (.goto 4, 3) := by decide +kernel
theorem dX5_planOrNone_10 : decode cX5_planOrNone 10 = .ok (.iload_n 0, 1) := by decide +kernel
theorem dX5_planOrNone_11 : decode cX5_planOrNone 11 = .ok (.ireturn, 1) := by decide +kernel
theorem dX5_isCutAdded_0 : decode cX5_isCutAdded 0 = .ok (.iload_n 0, 1) := by decide +kernel
theorem dX5_isCutAdded_1 : decode cX5_isCutAdded 1 = .ok (.ifCond .eq 8, 3) := by decide +kernel
theorem dX5_isCutAdded_4 : decode cX5_isCutAdded 4 = .ok (.iload_n 0, 1) := by decide +kernel
theorem dX5_isCutAdded_5 : decode cX5_isCutAdded 5 = .ok (.iconst 1, 1) := by decide +kernel
theorem dX5_isCutAdded_6 : decode cX5_isCutAdded 6 = .ok (.if_icmp .ne 7, 3) := by decide +kernel
theorem dX5_isCutAdded_9 : decode cX5_isCutAdded 9 = .ok (.iconst 1, 1) := by decide +kernel
theorem dX5_isCutAdded_10 : decode cX5_isCutAdded 10 = .ok (.goto 4, 3) := by decide +kernel
theorem dX5_isCutAdded_13 : decode cX5_isCutAdded 13 = .ok (.iconst 0, 1) := by decide +kernel
theorem dX5_isCutAdded_14 : decode cX5_isCutAdded 14 = .ok (.ireturn, 1) := by decide +kernel
theorem dX5_isSitePrice_0 : decode cX5_isSitePrice 0 = .ok (.iload_n 0, 1) := by decide +kernel
theorem dX5_isSitePrice_1 : decode cX5_isSitePrice 1 = .ok (.ifCond .lt 14, 3) := by decide +kernel
theorem dX5_isSitePrice_4 : decode cX5_isSitePrice 4 = .ok (.iload_n 0, 1) := by decide +kernel
theorem dX5_isSitePrice_5 : decode cX5_isSitePrice 5 = .ok (.sipush 999, 3) := by decide +kernel
theorem dX5_isSitePrice_8 : decode cX5_isSitePrice 8 = .ok (.if_icmp .gt 7, 3) := by decide +kernel
theorem dX5_isSitePrice_11 : decode cX5_isSitePrice 11 = .ok (.iconst 1, 1) := by decide +kernel
theorem dX5_isSitePrice_12 : decode cX5_isSitePrice 12 = .ok (.goto 4, 3) := by decide +kernel
theorem dX5_isSitePrice_15 : decode cX5_isSitePrice 15 = .ok (.iconst 0, 1) := by decide +kernel
theorem dX5_isSitePrice_16 : decode cX5_isSitePrice 16 = .ok (.ireturn, 1) := by decide +kernel
theorem dX5_isDemand_0 : decode cX5_isDemand 0 = .ok (.iload_n 0, 1) := by decide +kernel
theorem dX5_isDemand_1 : decode cX5_isDemand 1 = .ok (.iconst 1, 1) := by decide +kernel
theorem dX5_isDemand_2 : decode cX5_isDemand 2 = .ok (.if_icmp .lt 13, 3) := by decide +kernel
theorem dX5_isDemand_5 : decode cX5_isDemand 5 = .ok (.iload_n 0, 1) := by decide +kernel
theorem dX5_isDemand_6 : decode cX5_isDemand 6 = .ok (.bipush 20, 2) := by decide +kernel
theorem dX5_isDemand_8 : decode cX5_isDemand 8 = .ok (.if_icmp .gt 7, 3) := by decide +kernel
theorem dX5_isDemand_11 : decode cX5_isDemand 11 = .ok (.iconst 1, 1) := by decide +kernel
theorem dX5_isDemand_12 : decode cX5_isDemand 12 = .ok (.goto 4, 3) := by decide +kernel
theorem dX5_isDemand_15 : decode cX5_isDemand 15 = .ok (.iconst 0, 1) := by decide +kernel
theorem dX5_isDemand_16 : decode cX5_isDemand 16 = .ok (.ireturn, 1) := by decide +kernel
theorem dX5_isIn_0 : decode cX5_isIn 0 = .ok (.iload_n 0, 1) := by decide +kernel
theorem dX5_isIn_1 : decode cX5_isIn 1 = .ok (.iload_n 1, 1) := by decide +kernel
theorem dX5_isIn_2 : decode cX5_isIn 2 = .ok (.ishr, 1) := by decide +kernel
theorem dX5_isIn_3 : decode cX5_isIn 3 = .ok (.iconst 1, 1) := by decide +kernel
theorem dX5_isIn_4 : decode cX5_isIn 4 = .ok (.iand, 1) := by decide +kernel
theorem dX5_isIn_5 : decode cX5_isIn 5 = .ok (.ifCond .eq 7, 3) := by decide +kernel
theorem dX5_isIn_8 : decode cX5_isIn 8 = .ok (.iconst 1, 1) := by decide +kernel
theorem dX5_isIn_9 : decode cX5_isIn 9 = .ok (.goto 4, 3) := by decide +kernel
theorem dX5_isIn_12 : decode cX5_isIn 12 = .ok (.iconst 0, 1) := by decide +kernel
theorem dX5_isIn_13 : decode cX5_isIn 13 = .ok (.ireturn, 1) := by decide +kernel
