theorem dX11_init_0 : decode cX11_init 0 = .ok (.aload_n 0, 1) := by decide +kernel
theorem dX11_init_1 : decode cX11_init 1 = .ok (.invokespecial 1, 3) := by decide +kernel
theorem dX11_init_4 : decode cX11_init 4 = .ok (.aload_n 0, 1) := by decide +kernel
theorem dX11_init_5 : decode cX11_init 5 = .ok (.new 7, 3) := by decide +kernel
theorem dX11_init_8 : decode cX11_init 8 = .ok (.dup, 1) := by decide +kernel
theorem dX11_init_9 : decode cX11_init 9 = .ok (.invokespecial 9, 3) := by decide +kernel
theorem dX11_init_12 : decode cX11_init 12 = .ok (.putfield 10, 3) := by decide +kernel
theorem dX11_init_15 : decode cX11_init 15 = .ok (.aload_n 0, 1) := by decide +kernel
theorem dX11_init_16 : decode cX11_init 16 = .ok (.new 16, 3) := by decide +kernel
theorem dX11_init_19 : decode cX11_init 19 = .ok (.dup, 1) := by decide +kernel
theorem dX11_init_20 : decode cX11_init 20 = .ok (.invokespecial 18, 3) := by decide +kernel
theorem dX11_init_23 : decode cX11_init 23 = .ok (.putfield 19, 3) := by decide +kernel
theorem dX11_init_26 : decode cX11_init 26 = .ok (.aload_n 0, 1) := by decide +kernel
theorem dX11_init_27 : decode cX11_init 27 = .ok (.new 16, 3) := by decide +kernel
theorem dX11_init_30 : decode cX11_init 30 = .ok (.dup, 1) := by decide +kernel
theorem dX11_init_31 : decode cX11_init 31 = .ok (.invokespecial 18, 3) := by decide +kernel
theorem dX11_init_34 : decode cX11_init 34 = .ok (.putfield 23, 3) := by decide +kernel
theorem dX11_init_37 : decode cX11_init 37 = .ok (.aload_n 0, 1) := by decide +kernel
theorem dX11_init_38 : decode cX11_init 38 = .ok (.new 16, 3) := by decide +kernel
theorem dX11_init_41 : decode cX11_init 41 = .ok (.dup, 1) := by decide +kernel
theorem dX11_init_42 : decode cX11_init 42 = .ok (.invokespecial 18, 3) := by decide +kernel
theorem dX11_init_45 : decode cX11_init 45 = .ok (.putfield 26, 3) := by decide +kernel
theorem dX11_init_48 : decode cX11_init 48 = .ok (.aload_n 0, 1) := by decide +kernel
theorem dX11_init_49 : decode cX11_init 49 = .ok (.new 16, 3) := by decide +kernel
theorem dX11_init_52 : decode cX11_init 52 = .ok (.dup, 1) := by decide +kernel
theorem dX11_init_53 : decode cX11_init 53 = .ok (.invokespecial 18, 3) := by decide +kernel
theorem dX11_init_56 : decode cX11_init 56 = .ok (.putfield 29, 3) := by decide +kernel
theorem dX11_init_59 : decode cX11_init 59 = .ok (.aload_n 0, 1) := by decide +kernel
theorem dX11_init_60 : decode cX11_init 60 = .ok (.new 32, 3) := by decide +kernel
theorem dX11_init_63 : decode cX11_init 63 = .ok (.dup, 1) := by decide +kernel
theorem dX11_init_64 : decode cX11_init 64 = .ok (.aload_n 0, 1) := by decide +kernel
theorem dX11_init_65 : decode cX11_init 65 = .ok (.getfield 10, 3) := by decide +kernel
theorem dX11_init_68 : decode cX11_init 68 = .ok (.invokespecial 34, 3) := by decide +kernel
theorem dX11_init_71 : decode cX11_init 71 = .ok (.putfield 37, 3) := by decide +kernel
theorem dX11_init_74 : decode cX11_init 74 = .ok (.aload_n 0, 1) := by decide +kernel
theorem dX11_init_75 : decode cX11_init 75 = .ok (.new 41, 3) := by decide +kernel
theorem dX11_init_78 : decode cX11_init 78 = .ok (.dup, 1) := by decide +kernel
theorem dX11_init_79 : decode cX11_init 79 = .ok (.aload_n 0, 1) := by decide +kernel
theorem dX11_init_80 : decode cX11_init 80 = .ok (.getfield 10, 3) := by decide +kernel
theorem dX11_init_83 : decode cX11_init 83 = .ok (.aload_n 0, 1) := by decide +kernel
theorem dX11_init_84 : decode cX11_init 84 = .ok (.getfield 19, 3) := by decide +kernel
theorem dX11_init_87 : decode cX11_init 87 = .ok (.aload_n 0, 1) := by decide +kernel
theorem dX11_init_88 : decode cX11_init 88 = .ok (.getfield 23, 3) := by decide +kernel
theorem dX11_init_91 : decode cX11_init 91 = .ok (.invokespecial 43, 3) := by decide +kernel
theorem dX11_init_94 : decode cX11_init 94 = .ok (.putfield 46, 3) := by decide +kernel
theorem dX11_init_97 : decode cX11_init 97 = .ok (.aload_n 0, 1) := by decide +kernel
theorem dX11_init_98 : decode cX11_init 98 = .ok (.new 50, 3) := by decide +kernel
theorem dX11_init_101 : decode cX11_init 101 = .ok (.dup, 1) := by decide +kernel
theorem dX11_init_102 : decode cX11_init 102 = .ok (.invokespecial 52, 3) := by decide +kernel
theorem dX11_init_105 : decode cX11_init 105 = .ok (.putfield 53, 3) := by decide +kernel
theorem dX11_init_108 : decode cX11_init 108 = .ok (.aload_n 0, 1) := by decide +kernel
theorem dX11_init_109 : decode cX11_init 109 = .ok (.new 57, 3) := by decide +kernel
theorem dX11_init_112 : decode cX11_init 112 = .ok (.dup, 1) := by decide +kernel
theorem dX11_init_113 : decode cX11_init 113 = .ok (.invokespecial 59, 3) := by decide +kernel
theorem dX11_init_116 : decode cX11_init 116 = .ok (.putfield 60, 3) := by decide +kernel
theorem dX11_init_119 : decode cX11_init 119 = .ok (.aload_n 0, 1) := by decide +kernel
theorem dX11_init_120 : decode cX11_init 120 = .ok (.new 57, 3) := by decide +kernel
theorem dX11_init_123 : decode cX11_init 123 = .ok (.dup, 1) := by decide +kernel
theorem dX11_init_124 : decode cX11_init 124 = .ok (.invokespecial 59, 3) := by decide +kernel
theorem dX11_init_127 : decode cX11_init 127 = .ok (.putfield 64, 3) := by decide +kernel
theorem dX11_init_130 : decode cX11_init 130 = .ok (.aload_n 0, 1) := by decide +kernel
theorem dX11_init_131 : decode cX11_init 131 = .ok (.iconst 0, 1) := by decide +kernel
theorem dX11_init_132 : decode cX11_init 132 = .ok (.putfield 67, 3) := by decide +kernel
theorem dX11_init_135 : decode cX11_init 135 = .ok (.return_, 1) := by decide +kernel
theorem dX11_setRoads_0 : decode cX11_setRoads 0 = .ok (.iload_n 1, 1) := by decide +kernel
theorem dX11_setRoads_1 : decode cX11_setRoads 1 = .ok (.bipush 24, 2) := by decide +kernel
theorem dX11_setRoads_3 : decode cX11_setRoads 3 = .ok (.invokestatic 71, 3) := by decide +kernel
theorem dX11_setRoads_6 : decode cX11_setRoads 6 = .ok (.iload_n 2, 1) := by decide +kernel
theorem dX11_setRoads_7 : decode cX11_setRoads 7 = .ok (.iconst 5, 1) := by decide +kernel
theorem dX11_setRoads_8 : decode cX11_setRoads 8 = .ok (.bipush 30, 2) := by decide +kernel
theorem dX11_setRoads_10 : decode cX11_setRoads 10 = .ok (.invokestatic 75, 3) := by decide +kernel
theorem dX11_setRoads_13 : decode cX11_setRoads 13 = .ok (.aload_n 0, 1) := by decide +kernel
theorem dX11_setRoads_14 : decode cX11_setRoads 14 = .ok (.getfield 10, 3) := by decide +kernel
theorem dX11_setRoads_17 : decode cX11_setRoads 17 = .ok (.getfield 79, 3) := by decide +kernel
theorem dX11_setRoads_20 : decode cX11_setRoads 20 = .ok (.iload_n 1, 1) := by decide +kernel
theorem dX11_setRoads_21 : decode cX11_setRoads 21 = .ok (.iaload, 1) := by decide +kernel
theorem dX11_setRoads_22 : decode cX11_setRoads 22 = .ok (.istore_n 3, 1) := by decide +kernel
theorem dX11_setRoads_23 : decode cX11_setRoads 23 = .ok (.aload_n 0, 1) := by decide +kernel
theorem dX11_setRoads_24 : decode cX11_setRoads 24 = .ok (.getfield 10, 3) := by decide +kernel
theorem dX11_setRoads_27 : decode cX11_setRoads 27 = .ok (.getfield 79, 3) := by decide +kernel
theorem dX11_setRoads_30 : decode cX11_setRoads 30 = .ok (.iload_n 1, 1) := by decide +kernel
theorem dX11_setRoads_31 : decode cX11_setRoads 31 = .ok (.iload_n 2, 1) := by decide +kernel
theorem dX11_setRoads_32 : decode cX11_setRoads 32 = .ok (.iastore, 1) := by decide +kernel
theorem dX11_setRoads_33 : decode cX11_setRoads 33 = .ok (.iload_n 3, 1) := by decide +kernel
theorem dX11_setRoads_34 : decode cX11_setRoads 34 = .ok (.ireturn, 1) := by decide +kernel
theorem dX11_setDepot_0 : decode cX11_setDepot 0 = .ok (.iload_n 1, 1) := by decide +kernel
theorem dX11_setDepot_1 : decode cX11_setDepot 1 = .ok (.iload_n 2, 1) := by decide +kernel
theorem dX11_setDepot_2 : decode cX11_setDepot 2 = .ok (.invokestatic 83, 3) := by decide +kernel
theorem dX11_setDepot_5 : decode cX11_setDepot 5 = .ok (.aload_n 0, 1) := by decide +kernel
theorem dX11_setDepot_6 : decode cX11_setDepot 6 = .ok (.getfield 10, 3) := by decide +kernel
theorem dX11_setDepot_9 : decode cX11_setDepot 9 = .ok (.getfield 86, 3) := by decide +kernel
theorem dX11_setDepot_12 : decode cX11_setDepot 12 = .ok (.astore_n 3, 1) := by decide +kernel
theorem dX11_setDepot_13 : decode cX11_setDepot 13 = .ok (.aload_n 0, 1) := by decide +kernel
theorem dX11_setDepot_14 : decode cX11_setDepot 14 = .ok (.getfield 10, 3) := by decide +kernel
theorem dX11_setDepot_17 : decode cX11_setDepot 17 = .ok (.new 90, 3) := by decide +kernel
theorem dX11_setDepot_20 : decode cX11_setDepot 20 = .ok (.dup, 1) := by decide +kernel
theorem dX11_setDepot_21 : decode cX11_setDepot 21 = .ok (.iload_n 1, 1) := by decide +kernel
theorem dX11_setDepot_22 : decode cX11_setDepot 22 = .ok (.iload_n 2, 1) := by decide +kernel
theorem dX11_setDepot_23 : decode cX11_setDepot 23 = .ok (.invokespecial 92, 3) := by decide +kernel
theorem dX11_setDepot_26 : decode cX11_setDepot 26 = .ok (.putfield 86, 3) := by decide +kernel
theorem dX11_setDepot_29 : decode cX11_setDepot 29 = .ok (.bipush 100, 2) := by decide +kernel
theorem dX11_setDepot_31 : decode cX11_setDepot 31 = .ok (.aload_n 3, 1) := by decide +kernel
theorem dX11_setDepot_32 : decode cX11_setDepot 32 = .ok (.getfield 94, 3) := by decide +kernel
theorem dX11_setDepot_35 : decode cX11_setDepot 35 = .ok (.imul, 1) := by decide +kernel
theorem dX11_setDepot_36 : decode cX11_setDepot 36 = .ok (.aload_n 3, 1) := by decide +kernel
theorem dX11_setDepot_37 : decode cX11_setDepot 37 = .ok (.getfield 97, 3) := by decide +kernel
theorem dX11_setDepot_40 : decode cX11_setDepot 40 = .ok (.iadd, 1) := by decide +kernel
theorem dX11_setDepot_41 : decode cX11_setDepot 41 = .ok (.ireturn, 1) := by decide +kernel
theorem dX11_addHome_0 : decode cX11_addHome 0 = .ok (.iload_n 1, 1) := by decide +kernel
theorem dX11_addHome_1 : decode cX11_addHome 1 = .ok (.iload_n 2, 1) := by decide +kernel
theorem dX11_addHome_2 : decode cX11_addHome 2 = .ok (.invokestatic 83, 3) := by decide +kernel
theorem dX11_addHome_5 : decode cX11_addHome 5 = .ok (.iload_n 3, 1) := by decide +kernel
theorem dX11_addHome_6 : decode cX11_addHome 6 = .ok (.iconst 0, 1) := by decide +kernel
theorem dX11_addHome_7 : decode cX11_addHome 7 = .ok (.ldc 100, 2) := by decide +kernel
theorem dX11_addHome_9 : decode cX11_addHome 9 = .ok (.invokestatic 75, 3) := by decide +kernel
theorem dX11_addHome_12 : decode cX11_addHome 12 = .ok (.aload_n 0, 1) := by decide +kernel
theorem dX11_addHome_13 : decode cX11_addHome 13 = .ok (.getfield 19, 3) := by decide +kernel
theorem dX11_addHome_16 : decode cX11_addHome 16 = .ok (.invokevirtual 101, 3) := by decide +kernel
theorem dX11_addHome_19 : decode cX11_addHome 19 = .ok (.bipush 16, 2) := by decide +kernel
theorem dX11_addHome_21 : decode cX11_addHome 21 = .ok (.invokestatic 105, 3) := by decide +kernel
theorem dX11_addHome_24 : decode cX11_addHome 24 = .ok (.aload_n 0, 1) := by decide +kernel
theorem dX11_addHome_25 : decode cX11_addHome 25 = .ok (.getfield 19, 3) := by decide +kernel
theorem dX11_addHome_28 : decode cX11_addHome 28 = .ok (.new 108, 3) := by decide +kernel
theorem dX11_addHome_31 : decode cX11_addHome 31 = .ok (.dup, 1) := by decide +kernel
theorem dX11_addHome_32 : decode cX11_addHome 32 = .ok (.new 90, 3) := by decide +kernel
theorem dX11_addHome_35 : decode cX11_addHome 35 = .ok (.dup, 1) := by decide +kernel
theorem dX11_addHome_36 : decode cX11_addHome 36 = .ok (.iload_n 1, 1) := by decide +kernel
theorem dX11_addHome_37 : decode cX11_addHome 37 = .ok (.iload_n 2, 1) := by decide +kernel
theorem dX11_addHome_38 : decode cX11_addHome 38 = .ok (.invokespecial 92, 3) := by decide +kernel
theorem dX11_addHome_41 : decode cX11_addHome 41 = .ok (.iload_n 3, 1) := by decide +kernel
theorem dX11_addHome_42 : decode cX11_addHome 42 = .ok (.invokespecial 110, 3) := by decide +kernel
theorem dX11_addHome_45 : decode cX11_addHome 45 = .ok (.invokevirtual 113, 3) := by decide +kernel
theorem dX11_addHome_48 : decode cX11_addHome 48 = .ok (.pop, 1) := by decide +kernel
theorem dX11_addHome_49 : decode cX11_addHome 49 = .ok (.aload_n 0, 1) := by decide +kernel
theorem dX11_addHome_50 : decode cX11_addHome 50 = .ok (.getfield 19, 3) := by decide +kernel
theorem dX11_addHome_53 : decode cX11_addHome 53 = .ok (.invokevirtual 101, 3) := by decide +kernel
theorem dX11_addHome_56 : decode cX11_addHome 56 = .ok (.iconst 1, 1) := by decide +kernel
theorem dX11_addHome_57 : decode cX11_addHome 57 = .ok (.isub, 1) := by decide +kernel
theorem dX11_addHome_58 : decode cX11_addHome 58 = .ok (.ireturn, 1) := by decide +kernel
theorem dX11_order_0 : decode cX11_order 0 = .ok (.iload_n 1, 1) := by decide +kernel
theorem dX11_order_1 : decode cX11_order 1 = .ok (.aload_n 0, 1) := by decide +kernel
theorem dX11_order_2 : decode cX11_order 2 = .ok (.getfield 19, 3) := by decide +kernel
theorem dX11_order_5 : decode cX11_order 5 = .ok (.invokevirtual 101, 3) := by decide +kernel
theorem dX11_order_8 : decode cX11_order 8 = .ok (.invokestatic 71, 3) := by decide +kernel
theorem dX11_order_11 : decode cX11_order 11 = .ok (.iload_n 3, 1) := by decide +kernel
theorem dX11_order_12 : decode cX11_order 12 = .ok (.iload_n 2, 1) := by decide +kernel
theorem dX11_order_13 : decode cX11_order 13 = .ok (.ifCond .eq 13, 3) := by decide +kernel
theorem dX11_order_16 : decode cX11_order 16 = .ok (.aload_n 0, 1) := by decide +kernel
theorem dX11_order_17 : decode cX11_order 17 = .ok (.getfield 23, 3) := by decide +kernel
theorem dX11_order_20 : decode cX11_order 20 = .ok (.invokevirtual 101, 3) := by decide +kernel
theorem dX11_order_23 : decode cX11_order 23 = .ok (.goto 10, 3) := by decide +kernel
theorem dX11_order_26 : decode cX11_order 26 = .ok (.aload_n 0, 1) := by decide +kernel
theorem dX11_order_27 : decode cX11_order 27 = .ok (.getfield 19, 3) := by decide +kernel
theorem dX11_order_30 : decode cX11_order 30 = .ok (.invokevirtual 101, 3) := by decide +kernel
theorem dX11_order_33 : decode cX11_order 33 = .ok (.invokestatic 71, 3) := by decide +kernel
theorem dX11_order_36 : decode cX11_order 36 = .ok (.iload_n 2, 1) := by decide +kernel
theorem dX11_order_37 : decode cX11_order 37 = .ok (.ifCond .ne 18, 3) := by decide +kernel
theorem dX11_order_40 : decode cX11_order 40 = .ok (.iload_n 3, 1) := by decide +kernel
theorem dX11_order_41 : decode cX11_order 41 = .ok (.iload_n 1, 1) := by decide +kernel
theorem dX11_order_42 : decode cX11_order 42 = .ok (.if_icmp .ne 13, 3) := by decide +kernel
theorem dX11_order_45 : decode cX11_order 45 = .ok (.new 117, 3) := by decide +kernel
theorem dX11_order_48 : decode cX11_order 48 = .ok (.dup, 1) := by decide +kernel
theorem dX11_order_49 : decode cX11_order 49 = .ok (.ldc 119, 2) := by decide +kernel
theorem dX11_order_51 : decode cX11_order 51 = .ok (.invokespecial 121, 3) := by decide +kernel
theorem dX11_order_54 : decode cX11_order 54 = .ok (.athrow, 1) := by decide +kernel
theorem dX11_order_55 : decode cX11_order 55 = .ok (.aload_n 0, 1) := by decide +kernel
theorem dX11_order_56 : decode cX11_order 56 = .ok (.getfield 19, 3) := by decide +kernel
theorem dX11_order_59 : decode cX11_order 59 = .ok (.iload_n 1, 1) := by decide +kernel
theorem dX11_order_60 : decode cX11_order 60 = .ok (.invokevirtual 124, 3) := by decide +kernel
theorem dX11_order_63 : decode cX11_order 63 = .ok (.checkcast 108, 3) := by decide +kernel
theorem dX11_order_66 : decode cX11_order 66 = .ok (.astore 4, 2) := by decide +kernel
theorem dX11_order_68 : decode cX11_order 68 = .ok (.aload 4, 2) := by decide +kernel
theorem dX11_order_70 : decode cX11_order 70 = .ok (.getfield 128, 3) := by decide +kernel
theorem dX11_order_73 : decode cX11_order 73 = .ok (.iconst 3, 1) := by decide +kernel
theorem dX11_order_74 : decode cX11_order 74 = .ok (.invokestatic 105, 3) := by decide +kernel
theorem dX11_order_77 : decode cX11_order 77 = .ok (.aload 4, 2) := by decide +kernel
theorem dX11_order_79 : decode cX11_order 79 = .ok (.getfield 131, 3) := by decide +kernel
theorem dX11_order_82 : decode cX11_order 82 = .ok (.aload 4, 2) := by decide +kernel
theorem dX11_order_84 : decode cX11_order 84 = .ok (.getfield 128, 3) := by decide +kernel
theorem dX11_order_87 : decode cX11_order 87 = .ok (.iload_n 2, 1) := by decide +kernel
theorem dX11_order_88 : decode cX11_order 88 = .ok (.ifCond .eq 8, 3) := by decide +kernel
theorem dX11_order_91 : decode cX11_order 91 = .ok (.bipush 100, 2) := by decide +kernel
theorem dX11_order_93 : decode cX11_order 93 = .ok (.goto 6, 3) := by decide +kernel
theorem dX11_order_96 : decode cX11_order 96 = .ok (.sipush 200, 3) := by decide +kernel
theorem dX11_order_99 : decode cX11_order 99 = .ok (.iload_n 3, 1) := by decide +kernel
theorem dX11_order_100 : decode cX11_order 100 = .ok (.iadd, 1) := by decide +kernel
theorem dX11_order_101 : decode cX11_order 101 = .ok (.iastore, 1) := by decide +kernel
theorem dX11_order_102 : decode cX11_order 102 = .ok (.aload 4, 2) := by decide +kernel
theorem dX11_order_104 : decode cX11_order 104 = .ok (.dup, 1) := by decide +kernel
theorem dX11_order_105 : decode cX11_order 105 = .ok (.getfield 128, 3) := by decide +kernel
theorem dX11_order_108 : decode cX11_order 108 = .ok (.iconst 1, 1) := by decide +kernel
theorem dX11_order_109 : decode cX11_order 109 = .ok (.iadd, 1) := by decide +kernel
theorem dX11_order_110 : decode cX11_order 110 = .ok (.putfield 128, 3) := by decide +kernel
theorem dX11_order_113 : decode cX11_order 113 = .ok (.aload 4, 2) := by decide +kernel
theorem dX11_order_115 : decode cX11_order 115 = .ok (.getfield 128, 3) := by decide +kernel
theorem dX11_order_118 : decode cX11_order 118 = .ok (.ireturn, 1) := by decide +kernel
theorem dX11_addLocker_0 : decode cX11_addLocker 0 = .ok (.iload_n 1, 1) := by decide +kernel
theorem dX11_addLocker_1 : decode cX11_addLocker 1 = .ok (.iload_n 2, 1) := by decide +kernel
theorem dX11_addLocker_2 : decode cX11_addLocker 2 = .ok (.invokestatic 83, 3) := by decide +kernel
theorem dX11_addLocker_5 : decode cX11_addLocker 5 = .ok (.iload_n 3, 1) := by decide +kernel
theorem dX11_addLocker_6 : decode cX11_addLocker 6 = .ok (.iconst 0, 1) := by decide +kernel
theorem dX11_addLocker_7 : decode cX11_addLocker 7 = .ok (.bipush 9, 2) := by decide +kernel
theorem dX11_addLocker_9 : decode cX11_addLocker 9 = .ok (.invokestatic 75, 3) := by decide +kernel
theorem dX11_addLocker_12 : decode cX11_addLocker 12 = .ok (.iload 4, 2) := by decide +kernel
theorem dX11_addLocker_14 : decode cX11_addLocker 14 = .ok (.iconst 0, 1) := by decide +kernel
theorem dX11_addLocker_15 : decode cX11_addLocker 15 = .ok (.bipush 9, 2) := by decide +kernel
theorem dX11_addLocker_17 : decode cX11_addLocker 17 = .ok (.invokestatic 75, 3) := by decide +kernel
theorem dX11_addLocker_20 : decode cX11_addLocker 20 = .ok (.iload 5, 2) := by decide +kernel
theorem dX11_addLocker_22 : decode cX11_addLocker 22 = .ok (.iconst 0, 1) := by decide +kernel
theorem dX11_addLocker_23 : decode cX11_addLocker 23 = .ok (.bipush 9, 2) := by decide +kernel
theorem dX11_addLocker_25 : decode cX11_addLocker 25 = .ok (.invokestatic 75, 3) := by decide +kernel
theorem dX11_addLocker_28 : decode cX11_addLocker 28 = .ok (.aload_n 0, 1) := by decide +kernel
theorem dX11_addLocker_29 : decode cX11_addLocker 29 = .ok (.getfield 23, 3) := by decide +kernel
theorem dX11_addLocker_32 : decode cX11_addLocker 32 = .ok (.invokevirtual 101, 3) := by decide +kernel
theorem dX11_addLocker_35 : decode cX11_addLocker 35 = .ok (.iconst 4, 1) := by decide +kernel
theorem dX11_addLocker_36 : decode cX11_addLocker 36 = .ok (.invokestatic 105, 3) := by decide +kernel
theorem dX11_addLocker_39 : decode cX11_addLocker 39 = .ok (.aload_n 0, 1) := by decide +kernel
theorem dX11_addLocker_40 : decode cX11_addLocker 40 = .ok (.getfield 23, 3) := by decide +kernel
theorem dX11_addLocker_43 : decode cX11_addLocker 43 = .ok (.new 134, 3) := by decide +kernel
theorem dX11_addLocker_46 : decode cX11_addLocker 46 = .ok (.dup, 1) := by decide +kernel
theorem dX11_addLocker_47 : decode cX11_addLocker 47 = .ok (.new 90, 3) := by decide +kernel
theorem dX11_addLocker_50 : decode cX11_addLocker 50 = .ok (.dup, 1) := by decide +kernel
theorem dX11_addLocker_51 : decode cX11_addLocker 51 = .ok (.iload_n 1, 1) := by decide +kernel
theorem dX11_addLocker_52 : decode cX11_addLocker 52 = .ok (.iload_n 2, 1) := by decide +kernel
theorem dX11_addLocker_53 : decode cX11_addLocker 53 = .ok (.invokespecial 92, 3) := by decide +kernel
theorem dX11_addLocker_56 : decode cX11_addLocker 56 = .ok (.iload_n 3, 1) := by decide +kernel
theorem dX11_addLocker_57 : decode cX11_addLocker 57 = .ok (.iload 4, 2) := by decide +kernel
theorem dX11_addLocker_59 : decode cX11_addLocker 59 = .ok (.iload 5, 2) := by decide +kernel
theorem dX11_addLocker_61 : decode cX11_addLocker 61 = .ok (.invokespecial 136, 3) := by decide +kernel
theorem dX11_addLocker_64 : decode cX11_addLocker 64 = .ok (.invokevirtual 113, 3) := by decide +kernel
theorem dX11_addLocker_67 : decode cX11_addLocker 67 = .ok (.pop, 1) := by decide +kernel
theorem dX11_addLocker_68 : decode cX11_addLocker 68 = .ok (.aload_n 0, 1) := by decide +kernel
theorem dX11_addLocker_69 : decode cX11_addLocker 69 = .ok (.getfield 23, 3) := by decide +kernel
theorem dX11_addLocker_72 : decode cX11_addLocker 72 = .ok (.invokevirtual 101, 3) := by decide +kernel
theorem dX11_addLocker_75 : decode cX11_addLocker 75 = .ok (.iconst 1, 1) := by decide +kernel
theorem dX11_addLocker_76 : decode cX11_addLocker 76 = .ok (.isub, 1) := by decide +kernel
theorem dX11_addLocker_77 : decode cX11_addLocker 77 = .ok (.ireturn, 1) := by decide +kernel
theorem dX11_addVan_0 : decode cX11_addVan 0 = .ok (.iload_n 1, 1) := by decide +kernel
theorem dX11_addVan_1 : decode cX11_addVan 1 = .ok (.bipush 10, 2) := by decide +kernel
theorem dX11_addVan_3 : decode cX11_addVan 3 = .ok (.sipush 200, 3) := by decide +kernel
theorem dX11_addVan_6 : decode cX11_addVan 6 = .ok (.invokestatic 75, 3) := by decide +kernel
theorem dX11_addVan_9 : decode cX11_addVan 9 = .ok (.iload_n 2, 1) := by decide +kernel
theorem dX11_addVan_10 : decode cX11_addVan 10 = .ok (.iconst 0, 1) := by decide +kernel
theorem dX11_addVan_11 : decode cX11_addVan 11 = .ok (.sipush 1439, 3) := by decide +kernel
theorem dX11_addVan_14 : decode cX11_addVan 14 = .ok (.invokestatic 75, 3) := by decide +kernel
theorem dX11_addVan_17 : decode cX11_addVan 17 = .ok (.iload_n 3, 1) := by decide +kernel
theorem dX11_addVan_18 : decode cX11_addVan 18 = .ok (.iload_n 2, 1) := by decide +kernel
theorem dX11_addVan_19 : decode cX11_addVan 19 = .ok (.sipush 1439, 3) := by decide +kernel
theorem dX11_addVan_22 : decode cX11_addVan 22 = .ok (.invokestatic 75, 3) := by decide +kernel
theorem dX11_addVan_25 : decode cX11_addVan 25 = .ok (.aload_n 0, 1) := by decide +kernel
theorem dX11_addVan_26 : decode cX11_addVan 26 = .ok (.getfield 26, 3) := by decide +kernel
theorem dX11_addVan_29 : decode cX11_addVan 29 = .ok (.invokevirtual 101, 3) := by decide +kernel
theorem dX11_addVan_32 : decode cX11_addVan 32 = .ok (.iconst 4, 1) := by decide +kernel
theorem dX11_addVan_33 : decode cX11_addVan 33 = .ok (.invokestatic 105, 3) := by decide +kernel
theorem dX11_addVan_36 : decode cX11_addVan 36 = .ok (.aload_n 0, 1) := by decide +kernel
theorem dX11_addVan_37 : decode cX11_addVan 37 = .ok (.getfield 26, 3) := by decide +kernel
theorem dX11_addVan_40 : decode cX11_addVan 40 = .ok (.new 139, 3) := by decide +kernel
theorem dX11_addVan_43 : decode cX11_addVan 43 = .ok (.dup, 1) := by decide +kernel
theorem dX11_addVan_44 : decode cX11_addVan 44 = .ok (.aload_n 0, 1) := by decide +kernel
theorem dX11_addVan_45 : decode cX11_addVan 45 = .ok (.getfield 26, 3) := by decide +kernel
theorem dX11_addVan_48 : decode cX11_addVan 48 = .ok (.invokevirtual 101, 3) := by decide +kernel
theorem dX11_addVan_51 : decode cX11_addVan 51 = .ok (.iload_n 1, 1) := by decide +kernel
theorem dX11_addVan_52 : decode cX11_addVan 52 = .ok (.iload_n 2, 1) := by decide +kernel
theorem dX11_addVan_53 : decode cX11_addVan 53 = .ok (.iload_n 3, 1) := by decide +kernel
theorem dX11_addVan_54 : decode cX11_addVan 54 = .ok (.invokespecial 141, 3) := by decide +kernel
theorem dX11_addVan_57 : decode cX11_addVan 57 = .ok (.invokevirtual 113, 3) := by decide +kernel
theorem dX11_addVan_60 : decode cX11_addVan 60 = .ok (.pop, 1) := by decide +kernel
theorem dX11_addVan_61 : decode cX11_addVan 61 = .ok (.aload_n 0, 1) := by decide +kernel
theorem dX11_addVan_62 : decode cX11_addVan 62 = .ok (.getfield 26, 3) := by decide +kernel
theorem dX11_addVan_65 : decode cX11_addVan 65 = .ok (.invokevirtual 101, 3) := by decide +kernel
theorem dX11_addVan_68 : decode cX11_addVan 68 = .ok (.iconst 1, 1) := by decide +kernel
theorem dX11_addVan_69 : decode cX11_addVan 69 = .ok (.isub, 1) := by decide +kernel
theorem dX11_addVan_70 : decode cX11_addVan 70 = .ok (.ireturn, 1) := by decide +kernel
theorem dX11_addParcel_0 : decode cX11_addParcel 0 = .ok (.iload_n 1, 1) := by decide +kernel
theorem dX11_addParcel_1 : decode cX11_addParcel 1 = .ok (.iconst 0, 1) := by decide +kernel
theorem dX11_addParcel_2 : decode cX11_addParcel 2 = .ok (.iconst 2, 1) := by decide +kernel
theorem dX11_addParcel_3 : decode cX11_addParcel 3 = .ok (.invokestatic 75, 3) := by decide +kernel
theorem dX11_addParcel_6 : decode cX11_addParcel 6 = .ok (.iload_n 2, 1) := by decide +kernel
theorem dX11_addParcel_7 : decode cX11_addParcel 7 = .ok (.iconst 1, 1) := by decide +kernel
theorem dX11_addParcel_8 : decode cX11_addParcel 8 = .ok (.bipush 40, 2) := by decide +kernel
theorem dX11_addParcel_10 : decode cX11_addParcel 10 = .ok (.invokestatic 75, 3) := by decide +kernel
theorem dX11_addParcel_13 : decode cX11_addParcel 13 = .ok (.iload 4, 2) := by decide +kernel
theorem dX11_addParcel_15 : decode cX11_addParcel 15 = .ok (.iconst 0, 1) := by decide +kernel
theorem dX11_addParcel_16 : decode cX11_addParcel 16 = .ok (.sipush 1439, 3) := by decide +kernel
theorem dX11_addParcel_19 : decode cX11_addParcel 19 = .ok (.invokestatic 75, 3) := by decide +kernel
theorem dX11_addParcel_22 : decode cX11_addParcel 22 = .ok (.iload 5, 2) := by decide +kernel
theorem dX11_addParcel_24 : decode cX11_addParcel 24 = .ok (.iload 4, 2) := by decide +kernel
theorem dX11_addParcel_26 : decode cX11_addParcel 26 = .ok (.sipush 1439, 3) := by decide +kernel
theorem dX11_addParcel_29 : decode cX11_addParcel 29 = .ok (.invokestatic 75, 3) := by decide +kernel
theorem dX11_addParcel_32 : decode cX11_addParcel 32 = .ok (.iload_n 3, 1) := by decide +kernel
theorem dX11_addParcel_33 : decode cX11_addParcel 33 = .ok (.aload_n 0, 1) := by decide +kernel
theorem dX11_addParcel_34 : decode cX11_addParcel 34 = .ok (.getfield 19, 3) := by decide +kernel
theorem dX11_addParcel_37 : decode cX11_addParcel 37 = .ok (.invokevirtual 101, 3) := by decide +kernel
theorem dX11_addParcel_40 : decode cX11_addParcel 40 = .ok (.invokestatic 71, 3) := by decide +kernel
theorem dX11_addParcel_43 : decode cX11_addParcel 43 = .ok (.aload_n 0, 1) := by decide +kernel
theorem dX11_addParcel_44 : decode cX11_addParcel 44 = .ok (.getfield 29, 3) := by decide +kernel
theorem dX11_addParcel_47 : decode cX11_addParcel 47 = .ok (.invokevirtual 101, 3) := by decide +kernel
theorem dX11_addParcel_50 : decode cX11_addParcel 50 = .ok (.bipush 30, 2) := by decide +kernel
theorem dX11_addParcel_52 : decode cX11_addParcel 52 = .ok (.invokestatic 105, 3) := by decide +kernel
theorem dX11_addParcel_55 : decode cX11_addParcel 55 = .ok (.aload_n 0, 1) := by decide +kernel
theorem dX11_addParcel_56 : decode cX11_addParcel 56 = .ok (.getfield 29, 3) := by decide +kernel
theorem dX11_addParcel_59 : decode cX11_addParcel 59 = .ok (.new 144, 3) := by decide +kernel
theorem dX11_addParcel_62 : decode cX11_addParcel 62 = .ok (.dup, 1) := by decide +kernel
theorem dX11_addParcel_63 : decode cX11_addParcel 63 = .ok (.aload_n 0, 1) := by decide +kernel
theorem dX11_addParcel_64 : decode cX11_addParcel 64 = .ok (.getfield 29, 3) := by decide +kernel
theorem dX11_addParcel_67 : decode cX11_addParcel 67 = .ok (.invokevirtual 101, 3) := by decide +kernel
theorem dX11_addParcel_70 : decode cX11_addParcel 70 = .ok (.iload_n 1, 1) := by decide +kernel
theorem dX11_addParcel_71 : decode cX11_addParcel 71 = .ok (.iload_n 2, 1) := by decide +kernel
theorem dX11_addParcel_72 : decode cX11_addParcel 72 = .ok (.iload_n 3, 1) := by decide +kernel
theorem dX11_addParcel_73 : decode cX11_addParcel 73 = .ok (.aload_n 0, 1) := by decide +kernel
theorem dX11_addParcel_74 : decode cX11_addParcel 74 = .ok (.getfield 19, 3) := by decide +kernel
theorem dX11_addParcel_77 : decode cX11_addParcel 77 = .ok (.iload_n 3, 1) := by decide +kernel
theorem dX11_addParcel_78 : decode cX11_addParcel 78 = .ok (.invokevirtual 124, 3) := by decide +kernel
theorem dX11_addParcel_81 : decode cX11_addParcel 81 = .ok (.checkcast 108, 3) := by decide +kernel
theorem dX11_addParcel_84 : decode cX11_addParcel 84 = .ok (.iload 4, 2) := by decide +kernel
theorem dX11_addParcel_86 : decode cX11_addParcel 86 = .ok (.iload 5, 2) := by decide +kernel
theorem dX11_addParcel_88 : decode cX11_addParcel 88 = .ok (.invokespecial 146, 3) := by decide +kernel
theorem dX11_addParcel_91 : decode cX11_addParcel 91 = .ok (.invokevirtual 113, 3) := by decide +kernel
theorem dX11_addParcel_94 : decode cX11_addParcel 94 = .ok (.pop, 1) := by decide +kernel
theorem dX11_addParcel_95 : decode cX11_addParcel 95 = .ok (.aload_n 0, 1) := by decide +kernel
theorem dX11_addParcel_96 : decode cX11_addParcel 96 = .ok (.getfield 29, 3) := by decide +kernel
theorem dX11_addParcel_99 : decode cX11_addParcel 99 = .ok (.invokevirtual 101, 3) := by decide +kernel
theorem dX11_addParcel_102 : decode cX11_addParcel 102 = .ok (.iconst 1, 1) := by decide +kernel
theorem dX11_addParcel_103 : decode cX11_addParcel 103 = .ok (.isub, 1) := by decide +kernel
theorem dX11_addParcel_104 : decode cX11_addParcel 104 = .ok (.ireturn, 1) := by decide +kernel
theorem dX11_home_0 : decode cX11_home 0 = .ok (.iload_n 1, 1) := by decide +kernel
theorem dX11_home_1 : decode cX11_home 1 = .ok (.aload_n 0, 1) := by decide +kernel
theorem dX11_home_2 : decode cX11_home 2 = .ok (.getfield 19, 3) := by decide +kernel
theorem dX11_home_5 : decode cX11_home 5 = .ok (.invokevirtual 101, 3) := by decide +kernel
theorem dX11_home_8 : decode cX11_home 8 = .ok (.invokestatic 71, 3) := by decide +kernel
theorem dX11_home_11 : decode cX11_home 11 = .ok (.iload_n 2, 1) := by decide +kernel
theorem dX11_home_12 : decode cX11_home 12 = .ok (.bipush 6, 2) := by decide +kernel
theorem dX11_home_14 : decode cX11_home 14 = .ok (.invokestatic 71, 3) := by decide +kernel
theorem dX11_home_17 : decode cX11_home 17 = .ok (.aload_n 0, 1) := by decide +kernel
theorem dX11_home_18 : decode cX11_home 18 = .ok (.iload_n 1, 1) := by decide +kernel
theorem dX11_home_19 : decode cX11_home 19 = .ok (.iload_n 2, 1) := by decide +kernel
theorem dX11_home_20 : decode cX11_home 20 = .ok (.invokevirtual 149, 3) := by decide +kernel
theorem dX11_home_23 : decode cX11_home 23 = .ok (.ireturn, 1) := by decide +kernel
theorem dX11_locker_0 : decode cX11_locker 0 = .ok (.iload_n 1, 1) := by decide +kernel
theorem dX11_locker_1 : decode cX11_locker 1 = .ok (.aload_n 0, 1) := by decide +kernel
theorem dX11_locker_2 : decode cX11_locker 2 = .ok (.getfield 23, 3) := by decide +kernel
theorem dX11_locker_5 : decode cX11_locker 5 = .ok (.invokevirtual 101, 3) := by decide +kernel
theorem dX11_locker_8 : decode cX11_locker 8 = .ok (.invokestatic 71, 3) := by decide +kernel
theorem dX11_locker_11 : decode cX11_locker 11 = .ok (.iload_n 2, 1) := by decide +kernel
theorem dX11_locker_12 : decode cX11_locker 12 = .ok (.bipush 6, 2) := by decide +kernel
theorem dX11_locker_14 : decode cX11_locker 14 = .ok (.invokestatic 71, 3) := by decide +kernel
theorem dX11_locker_17 : decode cX11_locker 17 = .ok (.aload_n 0, 1) := by decide +kernel
theorem dX11_locker_18 : decode cX11_locker 18 = .ok (.iload_n 1, 1) := by decide +kernel
theorem dX11_locker_19 : decode cX11_locker 19 = .ok (.iload_n 2, 1) := by decide +kernel
theorem dX11_locker_20 : decode cX11_locker 20 = .ok (.invokevirtual 153, 3) := by decide +kernel
theorem dX11_locker_23 : decode cX11_locker 23 = .ok (.ireturn, 1) := by decide +kernel
theorem dX11_parcel_0 : decode cX11_parcel 0 = .ok (.iload_n 1, 1) := by decide +kernel
theorem dX11_parcel_1 : decode cX11_parcel 1 = .ok (.aload_n 0, 1) := by decide +kernel
theorem dX11_parcel_2 : decode cX11_parcel 2 = .ok (.getfield 29, 3) := by decide +kernel
theorem dX11_parcel_5 : decode cX11_parcel 5 = .ok (.invokevirtual 101, 3) := by decide +kernel
theorem dX11_parcel_8 : decode cX11_parcel 8 = .ok (.invokestatic 71, 3) := by decide +kernel
theorem dX11_parcel_11 : decode cX11_parcel 11 = .ok (.iload_n 2, 1) := by decide +kernel
theorem dX11_parcel_12 : decode cX11_parcel 12 = .ok (.bipush 9, 2) := by decide +kernel
theorem dX11_parcel_14 : decode cX11_parcel 14 = .ok (.invokestatic 71, 3) := by decide +kernel
theorem dX11_parcel_17 : decode cX11_parcel 17 = .ok (.aload_n 0, 1) := by decide +kernel
theorem dX11_parcel_18 : decode cX11_parcel 18 = .ok (.aload_n 0, 1) := by decide +kernel
theorem dX11_parcel_19 : decode cX11_parcel 19 = .ok (.getfield 29, 3) := by decide +kernel
theorem dX11_parcel_22 : decode cX11_parcel 22 = .ok (.iload_n 1, 1) := by decide +kernel
theorem dX11_parcel_23 : decode cX11_parcel 23 = .ok (.invokevirtual 124, 3) := by decide +kernel
theorem dX11_parcel_26 : decode cX11_parcel 26 = .ok (.checkcast 144, 3) := by decide +kernel
theorem dX11_parcel_29 : decode cX11_parcel 29 = .ok (.iload_n 2, 1) := by decide +kernel
theorem dX11_parcel_30 : decode cX11_parcel 30 = .ok (.invokevirtual 156, 3) := by decide +kernel
theorem dX11_parcel_33 : decode cX11_parcel 33 = .ok (.ireturn, 1) := by decide +kernel
theorem dX11_put_0 : decode cX11_put 0 = .ok (.aload_n 0, 1) := by decide +kernel
theorem dX11_put_1 : decode cX11_put 1 = .ok (.iload_n 1, 1) := by decide +kernel
theorem dX11_put_2 : decode cX11_put 2 = .ok (.iload_n 2, 1) := by decide +kernel
theorem dX11_put_3 : decode cX11_put 3 = .ok (.iload_n 3, 1) := by decide +kernel
theorem dX11_put_4 : decode cX11_put 4 = .ok (.invokevirtual 160, 3) := by decide +kernel
theorem dX11_put_7 : decode cX11_put 7 = .ok (.aload_n 0, 1) := by decide +kernel
theorem dX11_put_8 : decode cX11_put 8 = .ok (.getfield 29, 3) := by decide +kernel
theorem dX11_put_11 : decode cX11_put 11 = .ok (.iload_n 1, 1) := by decide +kernel
theorem dX11_put_12 : decode cX11_put 12 = .ok (.invokevirtual 124, 3) := by decide +kernel
theorem dX11_put_15 : decode cX11_put 15 = .ok (.checkcast 144, 3) := by decide +kernel
theorem dX11_put_18 : decode cX11_put 18 = .ok (.astore 4, 2) := by decide +kernel
theorem dX11_put_20 : decode cX11_put 20 = .ok (.aload_n 0, 1) := by decide +kernel
theorem dX11_put_21 : decode cX11_put 21 = .ok (.getfield 26, 3) := by decide +kernel
theorem dX11_put_24 : decode cX11_put 24 = .ok (.iload_n 2, 1) := by decide +kernel
theorem dX11_put_25 : decode cX11_put 25 = .ok (.invokevirtual 124, 3) := by decide +kernel
theorem dX11_put_28 : decode cX11_put 28 = .ok (.checkcast 139, 3) := by decide +kernel
theorem dX11_put_31 : decode cX11_put 31 = .ok (.astore 5, 2) := by decide +kernel
theorem dX11_put_33 : decode cX11_put 33 = .ok (.aload 4, 2) := by decide +kernel
theorem dX11_put_35 : decode cX11_put 35 = .ok (.invokestatic 163, 3) := by decide +kernel
theorem dX11_put_38 : decode cX11_put 38 = .ok (.ifCond .eq 15, 3) := by decide +kernel
theorem dX11_put_41 : decode cX11_put 41 = .ok (.aload_n 0, 1) := by decide +kernel
theorem dX11_put_42 : decode cX11_put 42 = .ok (.aload 4, 2) := by decide +kernel
theorem dX11_put_44 : decode cX11_put 44 = .ok (.aload 5, 2) := by decide +kernel
theorem dX11_put_46 : decode cX11_put 46 = .ok (.iload_n 3, 1) := by decide +kernel
theorem dX11_put_47 : decode cX11_put 47 = .ok (.invokevirtual 167, 3) := by decide +kernel
theorem dX11_put_50 : decode cX11_put 50 = .ok (.goto 5, 3) := by decide +kernel
theorem dX11_put_53 : decode cX11_put 53 = .ok (.ldc 171, 2) := by decide +kernel
theorem dX11_put_55 : decode cX11_put 55 = .ok (.istore 6, 2) := by decide +kernel
theorem dX11_put_57 : decode cX11_put 57 = .ok (.iload 6, 2) := by decide +kernel
theorem dX11_put_59 : decode cX11_put 59 = .ok (.ldc 171, 2) := by decide +kernel
theorem dX11_put_61 : decode cX11_put 61 = .ok (.if_icmp .ne 13, 3) := by decide +kernel
theorem dX11_put_64 : decode cX11_put 64 = .ok (.new 172, 3) := by decide +kernel
theorem dX11_put_67 : decode cX11_put 67 = .ok (.dup, 1) := by decide +kernel
theorem dX11_put_68 : decode cX11_put 68 = .ok (.ldc 174, 2) := by decide +kernel
theorem dX11_put_70 : decode cX11_put 70 = .ok (.invokespecial 176, 3) := by decide +kernel
theorem dX11_put_73 : decode cX11_put 73 = .ok (.athrow, 1) := by decide +kernel
theorem dX11_put_74 : decode cX11_put 74 = .ok (.aload 4, 2) := by decide +kernel
theorem dX11_put_76 : decode cX11_put 76 = .ok (.aload 5, 2) := by decide +kernel
theorem dX11_put_78 : decode cX11_put 78 = .ok (.iload_n 3, 1) := by decide +kernel
theorem dX11_put_79 : decode cX11_put 79 = .ok (.invokestatic 177, 3) := by decide +kernel
theorem dX11_put_82 : decode cX11_put 82 = .ok (.iload 6, 2) := by decide +kernel
theorem dX11_put_84 : decode cX11_put 84 = .ok (.ireturn, 1) := by decide +kernel
theorem dX11_take_0 : decode cX11_take 0 = .ok (.iload_n 1, 1) := by decide +kernel
theorem dX11_take_1 : decode cX11_take 1 = .ok (.aload_n 0, 1) := by decide +kernel
theorem dX11_take_2 : decode cX11_take 2 = .ok (.getfield 29, 3) := by decide +kernel
theorem dX11_take_5 : decode cX11_take 5 = .ok (.invokevirtual 101, 3) := by decide +kernel
theorem dX11_take_8 : decode cX11_take 8 = .ok (.invokestatic 71, 3) := by decide +kernel
theorem dX11_take_11 : decode cX11_take 11 = .ok (.aload_n 0, 1) := by decide +kernel
theorem dX11_take_12 : decode cX11_take 12 = .ok (.getfield 29, 3) := by decide +kernel
theorem dX11_take_15 : decode cX11_take 15 = .ok (.iload_n 1, 1) := by decide +kernel
theorem dX11_take_16 : decode cX11_take 16 = .ok (.invokevirtual 124, 3) := by decide +kernel
theorem dX11_take_19 : decode cX11_take 19 = .ok (.checkcast 144, 3) := by decide +kernel
theorem dX11_take_22 : decode cX11_take 22 = .ok (.astore_n 2, 1) := by decide +kernel
theorem dX11_take_23 : decode cX11_take 23 = .ok (.aload_n 2, 1) := by decide +kernel
theorem dX11_take_24 : decode cX11_take 24 = .ok (.getfield 181, 3) := by decide +kernel
theorem dX11_take_27 : decode cX11_take 27 = .ok (.ifnonnull 13, 3) := by decide +kernel
theorem dX11_take_30 : decode cX11_take 30 = .ok (.new 172, 3) := by decide +kernel
theorem dX11_take_33 : decode cX11_take 33 = .ok (.dup, 1) := by decide +kernel
theorem dX11_take_34 : decode cX11_take 34 = .ok (.ldc 185, 2) := by decide +kernel
theorem dX11_take_36 : decode cX11_take 36 = .ok (.invokespecial 176, 3) := by decide +kernel
theorem dX11_take_39 : decode cX11_take 39 = .ok (.athrow, 1) := by decide +kernel
theorem dX11_take_40 : decode cX11_take 40 = .ok (.aload_n 2, 1) := by decide +kernel
theorem dX11_take_41 : decode cX11_take 41 = .ok (.getfield 181, 3) := by decide +kernel
theorem dX11_take_44 : decode cX11_take 44 = .ok (.astore_n 3, 1) := by decide +kernel
theorem dX11_take_45 : decode cX11_take 45 = .ok (.aload_n 0, 1) := by decide +kernel
theorem dX11_take_46 : decode cX11_take 46 = .ok (.getfield 37, 3) := by decide +kernel
theorem dX11_take_49 : decode cX11_take 49 = .ok (.aload_n 3, 1) := by decide +kernel
theorem dX11_take_50 : decode cX11_take 50 = .ok (.aload_n 3, 1) := by decide +kernel
theorem dX11_take_51 : decode cX11_take 51 = .ok (.getfield 187, 3) := by decide +kernel
theorem dX11_take_54 : decode cX11_take 54 = .ok (.invokevirtual 190, 3) := by decide +kernel
theorem dX11_take_57 : decode cX11_take 57 = .ok (.istore 4, 2) := by decide +kernel
theorem dX11_take_59 : decode cX11_take 59 = .ok (.aload_n 2, 1) := by decide +kernel
theorem dX11_take_60 : decode cX11_take 60 = .ok (.invokestatic 194, 3) := by decide +kernel
theorem dX11_take_63 : decode cX11_take 63 = .ok (.iload 4, 2) := by decide +kernel
theorem dX11_take_65 : decode cX11_take 65 = .ok (.aload_n 0, 1) := by decide +kernel
theorem dX11_take_66 : decode cX11_take 66 = .ok (.getfield 37, 3) := by decide +kernel
theorem dX11_take_69 : decode cX11_take 69 = .ok (.aload_n 3, 1) := by decide +kernel
theorem dX11_take_70 : decode cX11_take 70 = .ok (.aload_n 3, 1) := by decide +kernel
theorem dX11_take_71 : decode cX11_take 71 = .ok (.getfield 187, 3) := by decide +kernel
theorem dX11_take_74 : decode cX11_take 74 = .ok (.invokevirtual 190, 3) := by decide +kernel
theorem dX11_take_77 : decode cX11_take 77 = .ok (.isub, 1) := by decide +kernel
theorem dX11_take_78 : decode cX11_take 78 = .ok (.ireturn, 1) := by decide +kernel
theorem dX11_route_0 : decode cX11_route 0 = .ok (.aload_n 0, 1) := by decide +kernel
theorem dX11_route_1 : decode cX11_route 1 = .ok (.iload_n 1, 1) := by decide +kernel
theorem dX11_route_2 : decode cX11_route 2 = .ok (.iload_n 2, 1) := by decide +kernel
theorem dX11_route_3 : decode cX11_route 3 = .ok (.invokevirtual 198, 3) := by decide +kernel
theorem dX11_route_6 : decode cX11_route 6 = .ok (.aload_n 0, 1) := by decide +kernel
theorem dX11_route_7 : decode cX11_route 7 = .ok (.getfield 26, 3) := by decide +kernel
theorem dX11_route_10 : decode cX11_route 10 = .ok (.iload_n 1, 1) := by decide +kernel
theorem dX11_route_11 : decode cX11_route 11 = .ok (.invokevirtual 124, 3) := by decide +kernel
theorem dX11_route_14 : decode cX11_route 14 = .ok (.checkcast 139, 3) := by decide +kernel
theorem dX11_route_17 : decode cX11_route 17 = .ok (.getfield 187, 3) := by decide +kernel
theorem dX11_route_20 : decode cX11_route 20 = .ok (.iload_n 2, 1) := by decide +kernel
theorem dX11_route_21 : decode cX11_route 21 = .ok (.invokevirtual 201, 3) := by decide +kernel
theorem dX11_route_24 : decode cX11_route 24 = .ok (.getfield 205, 3) := by decide +kernel
theorem dX11_route_27 : decode cX11_route 27 = .ok (.ireturn, 1) := by decide +kernel
theorem dX11_van_0 : decode cX11_van 0 = .ok (.iload_n 1, 1) := by decide +kernel
theorem dX11_van_1 : decode cX11_van 1 = .ok (.aload_n 0, 1) := by decide +kernel
theorem dX11_van_2 : decode cX11_van 2 = .ok (.getfield 26, 3) := by decide +kernel
theorem dX11_van_5 : decode cX11_van 5 = .ok (.invokevirtual 101, 3) := by decide +kernel
theorem dX11_van_8 : decode cX11_van 8 = .ok (.invokestatic 71, 3) := by decide +kernel
theorem dX11_van_11 : decode cX11_van 11 = .ok (.iload_n 2, 1) := by decide +kernel
theorem dX11_van_12 : decode cX11_van 12 = .ok (.bipush 10, 2) := by decide +kernel
theorem dX11_van_14 : decode cX11_van 14 = .ok (.invokestatic 71, 3) := by decide +kernel
theorem dX11_van_17 : decode cX11_van 17 = .ok (.aload_n 0, 1) := by decide +kernel
theorem dX11_van_18 : decode cX11_van 18 = .ok (.aload_n 0, 1) := by decide +kernel
theorem dX11_van_19 : decode cX11_van 19 = .ok (.getfield 26, 3) := by decide +kernel
theorem dX11_van_22 : decode cX11_van 22 = .ok (.iload_n 1, 1) := by decide +kernel
theorem dX11_van_23 : decode cX11_van 23 = .ok (.invokevirtual 124, 3) := by decide +kernel
theorem dX11_van_26 : decode cX11_van 26 = .ok (.checkcast 139, 3) := by decide +kernel
theorem dX11_van_29 : decode cX11_van 29 = .ok (.iload_n 2, 1) := by decide +kernel
theorem dX11_van_30 : decode cX11_van 30 = .ok (.invokevirtual 208, 3) := by decide +kernel
theorem dX11_van_33 : decode cX11_van 33 = .ok (.ireturn, 1) := by decide +kernel
theorem dX11_stop_0 : decode cX11_stop 0 = .ok (.aload_n 0, 1) := by decide +kernel
theorem dX11_stop_1 : decode cX11_stop 1 = .ok (.iload_n 1, 1) := by decide +kernel
theorem dX11_stop_2 : decode cX11_stop 2 = .ok (.iload_n 2, 1) := by decide +kernel
theorem dX11_stop_3 : decode cX11_stop 3 = .ok (.invokevirtual 198, 3) := by decide +kernel
theorem dX11_stop_6 : decode cX11_stop 6 = .ok (.iload_n 3, 1) := by decide +kernel
theorem dX11_stop_7 : decode cX11_stop 7 = .ok (.iconst 4, 1) := by decide +kernel
theorem dX11_stop_8 : decode cX11_stop 8 = .ok (.invokestatic 71, 3) := by decide +kernel
theorem dX11_stop_11 : decode cX11_stop 11 = .ok (.aload_n 0, 1) := by decide +kernel
theorem dX11_stop_12 : decode cX11_stop 12 = .ok (.getfield 26, 3) := by decide +kernel
theorem dX11_stop_15 : decode cX11_stop 15 = .ok (.iload_n 1, 1) := by decide +kernel
theorem dX11_stop_16 : decode cX11_stop 16 = .ok (.invokevirtual 124, 3) := by decide +kernel
theorem dX11_stop_19 : decode cX11_stop 19 = .ok (.checkcast 139, 3) := by decide +kernel
theorem dX11_stop_22 : decode cX11_stop 22 = .ok (.astore 4, 2) := by decide +kernel
theorem dX11_stop_24 : decode cX11_stop 24 = .ok (.aload_n 0, 1) := by decide +kernel
theorem dX11_stop_25 : decode cX11_stop 25 = .ok (.getfield 37, 3) := by decide +kernel
theorem dX11_stop_28 : decode cX11_stop 28 = .ok (.aload 4, 2) := by decide +kernel
theorem dX11_stop_30 : decode cX11_stop 30 = .ok (.aload 4, 2) := by decide +kernel
theorem dX11_stop_32 : decode cX11_stop 32 = .ok (.getfield 187, 3) := by decide +kernel
theorem dX11_stop_35 : decode cX11_stop 35 = .ok (.invokevirtual 190, 3) := by decide +kernel
theorem dX11_stop_38 : decode cX11_stop 38 = .ok (.pop, 1) := by decide +kernel
theorem dX11_stop_39 : decode cX11_stop 39 = .ok (.aload_n 0, 1) := by decide +kernel
theorem dX11_stop_40 : decode cX11_stop 40 = .ok (.getfield 37, 3) := by decide +kernel
theorem dX11_stop_43 : decode cX11_stop 43 = .ok (.getfield 212, 3) := by decide +kernel
theorem dX11_stop_46 : decode cX11_stop 46 = .ok (.iload_n 2, 1) := by decide +kernel
theorem dX11_stop_47 : decode cX11_stop 47 = .ok (.iaload, 1) := by decide +kernel
theorem dX11_stop_48 : decode cX11_stop 48 = .ok (.istore 5, 2) := by decide +kernel
theorem dX11_stop_50 : decode cX11_stop 50 = .ok (.iload_n 3, 1) := by decide +kernel
theorem dX11_stop_51 : decode cX11_stop 51 = .ok (.tableswitch 48 0 2 #[25, 28, 38], 25) := by decide +kernel
theorem dX11_stop_76 : decode cX11_stop 76 = .ok (.iload 5, 2) := by decide +kernel
theorem dX11_stop_78 : decode cX11_stop 78 = .ok (.ireturn, 1) := by decide +kernel
theorem dX11_stop_79 : decode cX11_stop 79 = .ok (.aload_n 0, 1) := by decide +kernel
theorem dX11_stop_80 : decode cX11_stop 80 = .ok (.getfield 37, 3) := by decide +kernel
theorem dX11_stop_83 : decode cX11_stop 83 = .ok (.getfield 215, 3) := by decide +kernel
theorem dX11_stop_86 : decode cX11_stop 86 = .ok (.iload_n 2, 1) := by decide +kernel
theorem dX11_stop_87 : decode cX11_stop 87 = .ok (.iaload, 1) := by decide +kernel
theorem dX11_stop_88 : decode cX11_stop 88 = .ok (.ireturn, 1) := by decide +kernel
theorem dX11_stop_89 : decode cX11_stop 89 = .ok (.aload_n 0, 1) := by decide +kernel
theorem dX11_stop_90 : decode cX11_stop 90 = .ok (.getfield 37, 3) := by decide +kernel
theorem dX11_stop_93 : decode cX11_stop 93 = .ok (.getfield 218, 3) := by decide +kernel
theorem dX11_stop_96 : decode cX11_stop 96 = .ok (.iload_n 2, 1) := by decide +kernel
theorem dX11_stop_97 : decode cX11_stop 97 = .ok (.iaload, 1) := by decide +kernel
theorem dX11_stop_98 : decode cX11_stop 98 = .ok (.ireturn, 1) := by decide +kernel
theorem dX11_stop_99 : decode cX11_stop 99 = .ok (.aload 4, 2) := by decide +kernel
theorem dX11_stop_101 : decode cX11_stop 101 = .ok (.getfield 187, 3) := by decide +kernel
theorem dX11_stop_104 : decode cX11_stop 104 = .ok (.iload_n 2, 1) := by decide +kernel
theorem dX11_stop_105 : decode cX11_stop 105 = .ok (.invokevirtual 201, 3) := by decide +kernel
theorem dX11_stop_108 : decode cX11_stop 108 = .ok (.getfield 221, 3) := by decide +kernel
theorem dX11_stop_111 : decode cX11_stop 111 = .ok (.iload 5, 2) := by decide +kernel
theorem dX11_stop_113 : decode cX11_stop 113 = .ok (.invokevirtual 225, 3) := by decide +kernel
theorem dX11_stop_116 : decode cX11_stop 116 = .ok (.ifCond .eq 7, 3) := by decide +kernel
theorem dX11_stop_119 : decode cX11_stop 119 = .ok (.iconst 1, 1) := by decide +kernel
theorem dX11_stop_120 : decode cX11_stop 120 = .ok (.goto 4, 3) := by decide +kernel
theorem dX11_stop_123 : decode cX11_stop 123 = .ok (.iconst 0, 1) := by decide +kernel
theorem dX11_stop_124 : decode cX11_stop 124 = .ok (.ireturn, 1) := by decide +kernel
theorem dX11_adds_0 : decode cX11_adds 0 = .ok (.aload_n 0, 1) := by decide +kernel
theorem dX11_adds_1 : decode cX11_adds 1 = .ok (.iload_n 1, 1) := by decide +kernel
theorem dX11_adds_2 : decode cX11_adds 2 = .ok (.iload_n 2, 1) := by decide +kernel
theorem dX11_adds_3 : decode cX11_adds 3 = .ok (.iload_n 3, 1) := by decide +kernel
theorem dX11_adds_4 : decode cX11_adds 4 = .ok (.invokevirtual 160, 3) := by decide +kernel
theorem dX11_adds_7 : decode cX11_adds 7 = .ok (.aload_n 0, 1) := by decide +kernel
theorem dX11_adds_8 : decode cX11_adds 8 = .ok (.aload_n 0, 1) := by decide +kernel
theorem dX11_adds_9 : decode cX11_adds 9 = .ok (.getfield 29, 3) := by decide +kernel
theorem dX11_adds_12 : decode cX11_adds 12 = .ok (.iload_n 1, 1) := by decide +kernel
theorem dX11_adds_13 : decode cX11_adds 13 = .ok (.invokevirtual 124, 3) := by decide +kernel
theorem dX11_adds_16 : decode cX11_adds 16 = .ok (.checkcast 144, 3) := by decide +kernel
theorem dX11_adds_19 : decode cX11_adds 19 = .ok (.aload_n 0, 1) := by decide +kernel
theorem dX11_adds_20 : decode cX11_adds 20 = .ok (.getfield 26, 3) := by decide +kernel
theorem dX11_adds_23 : decode cX11_adds 23 = .ok (.iload_n 2, 1) := by decide +kernel
theorem dX11_adds_24 : decode cX11_adds 24 = .ok (.invokevirtual 124, 3) := by decide +kernel
theorem dX11_adds_27 : decode cX11_adds 27 = .ok (.checkcast 139, 3) := by decide +kernel
theorem dX11_adds_30 : decode cX11_adds 30 = .ok (.iload_n 3, 1) := by decide +kernel
theorem dX11_adds_31 : decode cX11_adds 31 = .ok (.invokevirtual 167, 3) := by decide +kernel
theorem dX11_adds_34 : decode cX11_adds 34 = .ok (.ireturn, 1) := by decide +kernel
theorem dX11_cheapest_0 : decode cX11_cheapest 0 = .ok (.iload_n 1, 1) := by decide +kernel
theorem dX11_cheapest_1 : decode cX11_cheapest 1 = .ok (.aload_n 0, 1) := by decide +kernel
theorem dX11_cheapest_2 : decode cX11_cheapest 2 = .ok (.getfield 29, 3) := by decide +kernel
theorem dX11_cheapest_5 : decode cX11_cheapest 5 = .ok (.invokevirtual 101, 3) := by decide +kernel
theorem dX11_cheapest_8 : decode cX11_cheapest 8 = .ok (.invokestatic 71, 3) := by decide +kernel
theorem dX11_cheapest_11 : decode cX11_cheapest 11 = .ok (.aload_n 0, 1) := by decide +kernel
theorem dX11_cheapest_12 : decode cX11_cheapest 12 = .ok (.getfield 29, 3) := by decide +kernel
theorem dX11_cheapest_15 : decode cX11_cheapest 15 = .ok (.iload_n 1, 1) := by decide +kernel
theorem dX11_cheapest_16 : decode cX11_cheapest 16 = .ok (.invokevirtual 124, 3) := by decide +kernel
theorem dX11_cheapest_19 : decode cX11_cheapest 19 = .ok (.checkcast 144, 3) := by decide +kernel
theorem dX11_cheapest_22 : decode cX11_cheapest 22 = .ok (.astore_n 2, 1) := by decide +kernel
theorem dX11_cheapest_23 : decode cX11_cheapest 23 = .ok (.aload_n 0, 1) := by decide +kernel
theorem dX11_cheapest_24 : decode cX11_cheapest 24 = .ok (.getfield 53, 3) := by decide +kernel
theorem dX11_cheapest_27 : decode cX11_cheapest 27 = .ok (.invokevirtual 229, 3) := by decide +kernel
theorem dX11_cheapest_30 : decode cX11_cheapest 30 = .ok (.aload_n 0, 1) := by decide +kernel
theorem dX11_cheapest_31 : decode cX11_cheapest 31 = .ok (.aload_n 2, 1) := by decide +kernel
theorem dX11_cheapest_32 : decode cX11_cheapest 32 = .ok (.invokevirtual 232, 3) := by decide +kernel
theorem dX11_cheapest_35 : decode cX11_cheapest 35 = .ok (.aload_n 0, 1) := by decide +kernel
theorem dX11_cheapest_36 : decode cX11_cheapest 36 = .ok (.getfield 53, 3) := by decide +kernel
theorem dX11_cheapest_39 : decode cX11_cheapest 39 = .ok (.getfield 235, 3) := by decide +kernel
theorem dX11_cheapest_42 : decode cX11_cheapest 42 = .ok (.ifnonnull 7, 3) := by decide +kernel
theorem dX11_cheapest_45 : decode cX11_cheapest 45 = .ok (.iconst (-1), 1) := by decide +kernel
theorem dX11_cheapest_46 : decode cX11_cheapest 46 = .ok (.goto 10, 3) := by decide +kernel
theorem dX11_cheapest_49 : decode cX11_cheapest 49 = .ok (.aload_n 0, 1) := by decide +kernel
theorem dX11_cheapest_50 : decode cX11_cheapest 50 = .ok (.getfield 53, 3) := by decide +kernel
theorem dX11_cheapest_53 : decode cX11_cheapest 53 = .ok (.getfield 239, 3) := by decide +kernel
theorem dX11_cheapest_56 : decode cX11_cheapest 56 = .ok (.ireturn, 1) := by decide +kernel
theorem dX11_plan_0 : decode cX11_plan 0 = .ok (.iconst 0, 1) := by decide +kernel
theorem dX11_plan_1 : decode cX11_plan 1 = .ok (.istore_n 1, 1) := by decide +kernel
theorem dX11_plan_2 : decode cX11_plan 2 = .ok (.iconst 0, 1) := by decide +kernel
theorem dX11_plan_3 : decode cX11_plan 3 = .ok (.istore_n 2, 1) := by decide +kernel
theorem dX11_plan_4 : decode cX11_plan 4 = .ok (.iload_n 2, 1) := by decide +kernel
theorem dX11_plan_5 : decode cX11_plan 5 = .ok (.aload_n 0, 1) := by decide +kernel
theorem dX11_plan_6 : decode cX11_plan 6 = .ok (.getfield 29, 3) := by decide +kernel
theorem dX11_plan_9 : decode cX11_plan 9 = .ok (.invokevirtual 101, 3) := by decide +kernel
theorem dX11_plan_12 : decode cX11_plan 12 = .ok (.if_icmp .ge 84, 3) := by decide +kernel
theorem dX11_plan_15 : decode cX11_plan 15 = .ok (.aload_n 0, 1) := by decide +kernel
theorem dX11_plan_16 : decode cX11_plan 16 = .ok (.getfield 53, 3) := by decide +kernel
theorem dX11_plan_19 : decode cX11_plan 19 = .ok (.invokevirtual 229, 3) := by decide +kernel
theorem dX11_plan_22 : decode cX11_plan 22 = .ok (.iconst 0, 1) := by decide +kernel
theorem dX11_plan_23 : decode cX11_plan 23 = .ok (.istore_n 3, 1) := by decide +kernel
theorem dX11_plan_24 : decode cX11_plan 24 = .ok (.iload_n 3, 1) := by decide +kernel
theorem dX11_plan_25 : decode cX11_plan 25 = .ok (.aload_n 0, 1) := by decide +kernel
theorem dX11_plan_26 : decode cX11_plan 26 = .ok (.getfield 29, 3) := by decide +kernel
theorem dX11_plan_29 : decode cX11_plan 29 = .ok (.invokevirtual 101, 3) := by decide +kernel
theorem dX11_plan_32 : decode cX11_plan 32 = .ok (.if_icmp .ge 24, 3) := by decide +kernel
theorem dX11_plan_35 : decode cX11_plan 35 = .ok (.aload_n 0, 1) := by decide +kernel
theorem dX11_plan_36 : decode cX11_plan 36 = .ok (.aload_n 0, 1) := by decide +kernel
theorem dX11_plan_37 : decode cX11_plan 37 = .ok (.getfield 29, 3) := by decide +kernel
theorem dX11_plan_40 : decode cX11_plan 40 = .ok (.iload_n 3, 1) := by decide +kernel
theorem dX11_plan_41 : decode cX11_plan 41 = .ok (.invokevirtual 124, 3) := by decide +kernel
theorem dX11_plan_44 : decode cX11_plan 44 = .ok (.checkcast 144, 3) := by decide +kernel
theorem dX11_plan_47 : decode cX11_plan 47 = .ok (.invokevirtual 232, 3) := by decide +kernel
theorem dX11_plan_50 : decode cX11_plan 50 = .ok (.iinc 3 1, 3) := by decide +kernel
theorem dX11_plan_53 : decode cX11_plan 53 = .ok (.goto (-29), 3) := by decide +kernel
theorem dX11_plan_56 : decode cX11_plan 56 = .ok (.aload_n 0, 1) := by decide +kernel
theorem dX11_plan_57 : decode cX11_plan 57 = .ok (.getfield 53, 3) := by decide +kernel
theorem dX11_plan_60 : decode cX11_plan 60 = .ok (.getfield 235, 3) := by decide +kernel
theorem dX11_plan_63 : decode cX11_plan 63 = .ok (.ifnonnull 6, 3) := by decide +kernel
theorem dX11_plan_66 : decode cX11_plan 66 = .ok (.goto 30, 3) := by decide +kernel
theorem dX11_plan_69 : decode cX11_plan 69 = .ok (.aload_n 0, 1) := by decide +kernel
theorem dX11_plan_70 : decode cX11_plan 70 = .ok (.aload_n 0, 1) := by decide +kernel
theorem dX11_plan_71 : decode cX11_plan 71 = .ok (.getfield 53, 3) := by decide +kernel
theorem dX11_plan_74 : decode cX11_plan 74 = .ok (.getfield 235, 3) := by decide +kernel
theorem dX11_plan_77 : decode cX11_plan 77 = .ok (.aload_n 0, 1) := by decide +kernel
theorem dX11_plan_78 : decode cX11_plan 78 = .ok (.getfield 53, 3) := by decide +kernel
theorem dX11_plan_81 : decode cX11_plan 81 = .ok (.getfield 239, 3) := by decide +kernel
theorem dX11_plan_84 : decode cX11_plan 84 = .ok (.invokevirtual 242, 3) := by decide +kernel
theorem dX11_plan_87 : decode cX11_plan 87 = .ok (.iinc 1 1, 3) := by decide +kernel
theorem dX11_plan_90 : decode cX11_plan 90 = .ok (.iinc 2 1, 3) := by decide +kernel
theorem dX11_plan_93 : decode cX11_plan 93 = .ok (.goto (-89), 3) := by decide +kernel
theorem dX11_plan_96 : decode cX11_plan 96 = .ok (.iload_n 1, 1) := by decide +kernel
theorem dX11_plan_97 : decode cX11_plan 97 = .ok (.ireturn, 1) := by decide +kernel
theorem dX11_improve_0 : decode cX11_improve 0 = .ok (.iload_n 1, 1) := by decide +kernel
theorem dX11_improve_1 : decode cX11_improve 1 = .ok (.aload_n 0, 1) := by decide +kernel
theorem dX11_improve_2 : decode cX11_improve 2 = .ok (.getfield 26, 3) := by decide +kernel
theorem dX11_improve_5 : decode cX11_improve 5 = .ok (.invokevirtual 101, 3) := by decide +kernel
theorem dX11_improve_8 : decode cX11_improve 8 = .ok (.invokestatic 71, 3) := by decide +kernel
theorem dX11_improve_11 : decode cX11_improve 11 = .ok (.aload_n 0, 1) := by decide +kernel
theorem dX11_improve_12 : decode cX11_improve 12 = .ok (.getfield 26, 3) := by decide +kernel
theorem dX11_improve_15 : decode cX11_improve 15 = .ok (.iload_n 1, 1) := by decide +kernel
theorem dX11_improve_16 : decode cX11_improve 16 = .ok (.invokevirtual 124, 3) := by decide +kernel
theorem dX11_improve_19 : decode cX11_improve 19 = .ok (.checkcast 139, 3) := by decide +kernel
theorem dX11_improve_22 : decode cX11_improve 22 = .ok (.astore_n 2, 1) := by decide +kernel
theorem dX11_improve_23 : decode cX11_improve 23 = .ok (.aload_n 0, 1) := by decide +kernel
theorem dX11_improve_24 : decode cX11_improve 24 = .ok (.getfield 37, 3) := by decide +kernel
theorem dX11_improve_27 : decode cX11_improve 27 = .ok (.aload_n 2, 1) := by decide +kernel
theorem dX11_improve_28 : decode cX11_improve 28 = .ok (.aload_n 2, 1) := by decide +kernel
theorem dX11_improve_29 : decode cX11_improve 29 = .ok (.getfield 187, 3) := by decide +kernel
theorem dX11_improve_32 : decode cX11_improve 32 = .ok (.invokevirtual 190, 3) := by decide +kernel
theorem dX11_improve_35 : decode cX11_improve 35 = .ok (.istore_n 3, 1) := by decide +kernel
theorem dX11_improve_36 : decode cX11_improve 36 = .ok (.iload_n 3, 1) := by decide +kernel
theorem dX11_improve_37 : decode cX11_improve 37 = .ok (.istore 4, 2) := by decide +kernel
theorem dX11_improve_39 : decode cX11_improve 39 = .ok (.iconst 0, 1) := by decide +kernel
theorem dX11_improve_40 : decode cX11_improve 40 = .ok (.istore 5, 2) := by decide +kernel
theorem dX11_improve_42 : decode cX11_improve 42 = .ok (.iconst 0, 1) := by decide +kernel
theorem dX11_improve_43 : decode cX11_improve 43 = .ok (.istore 6, 2) := by decide +kernel
theorem dX11_improve_45 : decode cX11_improve 45 = .ok (.iconst 0, 1) := by decide +kernel
theorem dX11_improve_46 : decode cX11_improve 46 = .ok (.istore 7, 2) := by decide +kernel
theorem dX11_improve_48 : decode cX11_improve 48 = .ok (.iload 7, 2) := by decide +kernel
theorem dX11_improve_50 : decode cX11_improve 50 = .ok (.aload_n 2, 1) := by decide +kernel
theorem dX11_improve_51 : decode cX11_improve 51 = .ok (.getfield 187, 3) := by decide +kernel
theorem dX11_improve_54 : decode cX11_improve 54 = .ok (.getfield 246, 3) := by decide +kernel
theorem dX11_improve_57 : decode cX11_improve 57 = .ok (.if_icmp .ge 105, 3) := by decide +kernel
theorem dX11_improve_60 : decode cX11_improve 60 = .ok (.iload 7, 2) := by decide +kernel
theorem dX11_improve_62 : decode cX11_improve 62 = .ok (.iconst 1, 1) := by decide +kernel
theorem dX11_improve_63 : decode cX11_improve 63 = .ok (.iadd, 1) := by decide +kernel
theorem dX11_improve_64 : decode cX11_improve 64 = .ok (.istore 8, 2) := by decide +kernel
theorem dX11_improve_66 : decode cX11_improve 66 = .ok (.iload 8, 2) := by decide +kernel
theorem dX11_improve_68 : decode cX11_improve 68 = .ok (.aload_n 2, 1) := by decide +kernel
theorem dX11_improve_69 : decode cX11_improve 69 = .ok (.getfield 187, 3) := by decide +kernel
theorem dX11_improve_72 : decode cX11_improve 72 = .ok (.getfield 246, 3) := by decide +kernel
theorem dX11_improve_75 : decode cX11_improve 75 = .ok (.if_icmp .ge 81, 3) := by decide +kernel
theorem dX11_improve_78 : decode cX11_improve 78 = .ok (.aload_n 0, 1) := by decide +kernel
theorem dX11_improve_79 : decode cX11_improve 79 = .ok (.getfield 60, 3) := by decide +kernel
theorem dX11_improve_82 : decode cX11_improve 82 = .ok (.aload_n 2, 1) := by decide +kernel
theorem dX11_improve_83 : decode cX11_improve 83 = .ok (.getfield 187, 3) := by decide +kernel
theorem dX11_improve_86 : decode cX11_improve 86 = .ok (.invokevirtual 248, 3) := by decide +kernel
theorem dX11_improve_89 : decode cX11_improve 89 = .ok (.aload_n 0, 1) := by decide +kernel
theorem dX11_improve_90 : decode cX11_improve 90 = .ok (.getfield 60, 3) := by decide +kernel
theorem dX11_improve_93 : decode cX11_improve 93 = .ok (.iload 7, 2) := by decide +kernel
theorem dX11_improve_95 : decode cX11_improve 95 = .ok (.iload 8, 2) := by decide +kernel
theorem dX11_improve_97 : decode cX11_improve 97 = .ok (.invokevirtual 252, 3) := by decide +kernel
theorem dX11_improve_100 : decode cX11_improve 100 = .ok (.aload_n 0, 1) := by decide +kernel
theorem dX11_improve_101 : decode cX11_improve 101 = .ok (.getfield 60, 3) := by decide +kernel
theorem dX11_improve_104 : decode cX11_improve 104 = .ok (.aload_n 2, 1) := by decide +kernel
theorem dX11_improve_105 : decode cX11_improve 105 = .ok (.getfield 255, 3) := by decide +kernel
theorem dX11_improve_108 : decode cX11_improve 108 = .ok (.invokevirtual 258, 3) := by decide +kernel
theorem dX11_improve_111 : decode cX11_improve 111 = .ok (.ifCond .ne 6, 3) := by decide +kernel
theorem dX11_improve_114 : decode cX11_improve 114 = .ok (.goto 36, 3) := by decide +kernel
theorem dX11_improve_117 : decode cX11_improve 117 = .ok (.aload_n 0, 1) := by decide +kernel
theorem dX11_improve_118 : decode cX11_improve 118 = .ok (.getfield 37, 3) := by decide +kernel
theorem dX11_improve_121 : decode cX11_improve 121 = .ok (.aload_n 2, 1) := by decide +kernel
theorem dX11_improve_122 : decode cX11_improve 122 = .ok (.aload_n 0, 1) := by decide +kernel
theorem dX11_improve_123 : decode cX11_improve 123 = .ok (.getfield 60, 3) := by decide +kernel
theorem dX11_improve_126 : decode cX11_improve 126 = .ok (.invokevirtual 190, 3) := by decide +kernel
theorem dX11_improve_129 : decode cX11_improve 129 = .ok (.istore 9, 2) := by decide +kernel
theorem dX11_improve_131 : decode cX11_improve 131 = .ok (.iload 9, 2) := by decide +kernel
theorem dX11_improve_133 : decode cX11_improve 133 = .ok (.iload 4, 2) := by decide +kernel
theorem dX11_improve_135 : decode cX11_improve 135 = .ok (.if_icmp .ge 15, 3) := by decide +kernel
theorem dX11_improve_138 : decode cX11_improve 138 = .ok (.iload 9, 2) := by decide +kernel
theorem dX11_improve_140 : decode cX11_improve 140 = .ok (.istore 4, 2) := by decide +kernel
theorem dX11_improve_142 : decode cX11_improve 142 = .ok (.iload 7, 2) := by decide +kernel
theorem dX11_improve_144 : decode cX11_improve 144 = .ok (.istore 5, 2) := by decide +kernel
theorem dX11_improve_146 : decode cX11_improve 146 = .ok (.iload 8, 2) := by decide +kernel
theorem dX11_improve_148 : decode cX11_improve 148 = .ok (.istore 6, 2) := by decide +kernel
theorem dX11_improve_150 : decode cX11_improve 150 = .ok (.iinc 8 1, 3) := by decide +kernel
theorem dX11_improve_153 : decode cX11_improve 153 = .ok (.goto (-87), 3) := by decide +kernel
theorem dX11_improve_156 : decode cX11_improve 156 = .ok (.iinc 7 1, 3) := by decide +kernel
theorem dX11_improve_159 : decode cX11_improve 159 = .ok (.goto (-111), 3) := by decide +kernel
theorem dX11_improve_162 : decode cX11_improve 162 = .ok (.aload_n 2, 1) := by decide +kernel
theorem dX11_improve_163 : decode cX11_improve 163 = .ok (.getfield 187, 3) := by decide +kernel
theorem dX11_improve_166 : decode cX11_improve 166 = .ok (.iload 5, 2) := by decide +kernel
theorem dX11_improve_168 : decode cX11_improve 168 = .ok (.iload 6, 2) := by decide +kernel
theorem dX11_improve_170 : decode cX11_improve 170 = .ok (.invokevirtual 252, 3) := by decide +kernel
theorem dX11_improve_173 : decode cX11_improve 173 = .ok (.iload_n 3, 1) := by decide +kernel
theorem dX11_improve_174 : decode cX11_improve 174 = .ok (.iload 4, 2) := by decide +kernel
theorem dX11_improve_176 : decode cX11_improve 176 = .ok (.isub, 1) := by decide +kernel
theorem dX11_improve_177 : decode cX11_improve 177 = .ok (.ireturn, 1) := by decide +kernel
theorem dX11_move_0 : decode cX11_move 0 = .ok (.aload_n 0, 1) := by decide +kernel
theorem dX11_move_1 : decode cX11_move 1 = .ok (.getfield 53, 3) := by decide +kernel
theorem dX11_move_4 : decode cX11_move 4 = .ok (.invokevirtual 229, 3) := by decide +kernel
theorem dX11_move_7 : decode cX11_move 7 = .ok (.iconst 0, 1) := by decide +kernel
theorem dX11_move_8 : decode cX11_move 8 = .ok (.istore_n 1, 1) := by decide +kernel
theorem dX11_move_9 : decode cX11_move 9 = .ok (.iload_n 1, 1) := by decide +kernel
theorem dX11_move_10 : decode cX11_move 10 = .ok (.aload_n 0, 1) := by decide +kernel
theorem dX11_move_11 : decode cX11_move 11 = .ok (.getfield 29, 3) := by decide +kernel
theorem dX11_move_14 : decode cX11_move 14 = .ok (.invokevirtual 101, 3) := by decide +kernel
theorem dX11_move_17 : decode cX11_move 17 = .ok (.if_icmp .ge 24, 3) := by decide +kernel
theorem dX11_move_20 : decode cX11_move 20 = .ok (.aload_n 0, 1) := by decide +kernel
theorem dX11_move_21 : decode cX11_move 21 = .ok (.aload_n 0, 1) := by decide +kernel
theorem dX11_move_22 : decode cX11_move 22 = .ok (.getfield 29, 3) := by decide +kernel
theorem dX11_move_25 : decode cX11_move 25 = .ok (.iload_n 1, 1) := by decide +kernel
theorem dX11_move_26 : decode cX11_move 26 = .ok (.invokevirtual 124, 3) := by decide +kernel
theorem dX11_move_29 : decode cX11_move 29 = .ok (.checkcast 144, 3) := by decide +kernel
theorem dX11_move_32 : decode cX11_move 32 = .ok (.invokevirtual 261, 3) := by decide +kernel
theorem dX11_move_35 : decode cX11_move 35 = .ok (.iinc 1 1, 3) := by decide +kernel
theorem dX11_move_38 : decode cX11_move 38 = .ok (.goto (-29), 3) := by decide +kernel
theorem dX11_move_41 : decode cX11_move 41 = .ok (.aload_n 0, 1) := by decide +kernel
theorem dX11_move_42 : decode cX11_move 42 = .ok (.getfield 53, 3) := by decide +kernel
theorem dX11_move_45 : decode cX11_move 45 = .ok (.getfield 235, 3) := by decide +kernel
theorem dX11_move_48 : decode cX11_move 48 = .ok (.ifnull 13, 3) := by decide +kernel
theorem dX11_move_51 : decode cX11_move 51 = .ok (.aload_n 0, 1) := by decide +kernel
theorem dX11_move_52 : decode cX11_move 52 = .ok (.getfield 53, 3) := by decide +kernel
theorem dX11_move_55 : decode cX11_move 55 = .ok (.getfield 264, 3) := by decide +kernel
theorem dX11_move_58 : decode cX11_move 58 = .ok (.ifCond .lt 5, 3) := by decide +kernel
theorem dX11_move_61 : decode cX11_move 61 = .ok (.iconst 0, 1) := by decide +kernel
theorem dX11_move_62 : decode cX11_move 62 = .ok (.ireturn, 1) := by decide +kernel
theorem dX11_move_63 : decode cX11_move 63 = .ok (.aload_n 0, 1) := by decide +kernel
theorem dX11_move_64 : decode cX11_move 64 = .ok (.getfield 53, 3) := by decide +kernel
theorem dX11_move_67 : decode cX11_move 67 = .ok (.getfield 235, 3) := by decide +kernel
theorem dX11_move_70 : decode cX11_move 70 = .ok (.invokestatic 194, 3) := by decide +kernel
theorem dX11_move_73 : decode cX11_move 73 = .ok (.aload_n 0, 1) := by decide +kernel
theorem dX11_move_74 : decode cX11_move 74 = .ok (.aload_n 0, 1) := by decide +kernel
theorem dX11_move_75 : decode cX11_move 75 = .ok (.getfield 53, 3) := by decide +kernel
theorem dX11_move_78 : decode cX11_move 78 = .ok (.getfield 235, 3) := by decide +kernel
theorem dX11_move_81 : decode cX11_move 81 = .ok (.aload_n 0, 1) := by decide +kernel
theorem dX11_move_82 : decode cX11_move 82 = .ok (.getfield 53, 3) := by decide +kernel
theorem dX11_move_85 : decode cX11_move 85 = .ok (.getfield 239, 3) := by decide +kernel
theorem dX11_move_88 : decode cX11_move 88 = .ok (.invokevirtual 242, 3) := by decide +kernel
theorem dX11_move_91 : decode cX11_move 91 = .ok (.aload_n 0, 1) := by decide +kernel
theorem dX11_move_92 : decode cX11_move 92 = .ok (.getfield 53, 3) := by decide +kernel
theorem dX11_move_95 : decode cX11_move 95 = .ok (.getfield 264, 3) := by decide +kernel
theorem dX11_move_98 : decode cX11_move 98 = .ok (.ineg, 1) := by decide +kernel
theorem dX11_move_99 : decode cX11_move 99 = .ok (.ireturn, 1) := by decide +kernel
theorem dX11_count_0 : decode cX11_count 0 = .ok (.iload_n 1, 1) := by decide +kernel
theorem dX11_count_1 : decode cX11_count 1 = .ok (.bipush 12, 2) := by decide +kernel
theorem dX11_count_3 : decode cX11_count 3 = .ok (.invokestatic 71, 3) := by decide +kernel
theorem dX11_count_6 : decode cX11_count 6 = .ok (.aload_n 0, 1) := by decide +kernel
theorem dX11_count_7 : decode cX11_count 7 = .ok (.iload_n 1, 1) := by decide +kernel
theorem dX11_count_8 : decode cX11_count 8 = .ok (.invokevirtual 267, 3) := by decide +kernel
theorem dX11_count_11 : decode cX11_count 11 = .ok (.ireturn, 1) := by decide +kernel
theorem dX11_drive_0 : decode cX11_drive 0 = .ok (.aload_n 0, 1) := by decide +kernel
theorem dX11_drive_1 : decode cX11_drive 1 = .ok (.invokevirtual 271, 3) := by decide +kernel
theorem dX11_drive_4 : decode cX11_drive 4 = .ok (.iconst 0, 1) := by decide +kernel
theorem dX11_drive_5 : decode cX11_drive 5 = .ok (.istore_n 1, 1) := by decide +kernel
theorem dX11_drive_6 : decode cX11_drive 6 = .ok (.iload_n 1, 1) := by decide +kernel
theorem dX11_drive_7 : decode cX11_drive 7 = .ok (.aload_n 0, 1) := by decide +kernel
theorem dX11_drive_8 : decode cX11_drive 8 = .ok (.getfield 29, 3) := by decide +kernel
theorem dX11_drive_11 : decode cX11_drive 11 = .ok (.invokevirtual 101, 3) := by decide +kernel
theorem dX11_drive_14 : decode cX11_drive 14 = .ok (.if_icmp .ge 24, 3) := by decide +kernel
theorem dX11_drive_17 : decode cX11_drive 17 = .ok (.aload_n 0, 1) := by decide +kernel
theorem dX11_drive_18 : decode cX11_drive 18 = .ok (.getfield 29, 3) := by decide +kernel
theorem dX11_drive_21 : decode cX11_drive 21 = .ok (.iload_n 1, 1) := by decide +kernel
theorem dX11_drive_22 : decode cX11_drive 22 = .ok (.invokevirtual 124, 3) := by decide +kernel
theorem dX11_drive_25 : decode cX11_drive 25 = .ok (.checkcast 144, 3) := by decide +kernel
theorem dX11_drive_28 : decode cX11_drive 28 = .ok (.aconst_null, 1) := by decide +kernel
theorem dX11_drive_29 : decode cX11_drive 29 = .ok (.putfield 181, 3) := by decide +kernel
theorem dX11_drive_32 : decode cX11_drive 32 = .ok (.iinc 1 1, 3) := by decide +kernel
theorem dX11_drive_35 : decode cX11_drive 35 = .ok (.goto (-29), 3) := by decide +kernel
theorem dX11_drive_38 : decode cX11_drive 38 = .ok (.iconst 0, 1) := by decide +kernel
theorem dX11_drive_39 : decode cX11_drive 39 = .ok (.istore_n 1, 1) := by decide +kernel
theorem dX11_drive_40 : decode cX11_drive 40 = .ok (.iload_n 1, 1) := by decide +kernel
theorem dX11_drive_41 : decode cX11_drive 41 = .ok (.aload_n 0, 1) := by decide +kernel
theorem dX11_drive_42 : decode cX11_drive 42 = .ok (.getfield 26, 3) := by decide +kernel
theorem dX11_drive_45 : decode cX11_drive 45 = .ok (.invokevirtual 101, 3) := by decide +kernel
theorem dX11_drive_48 : decode cX11_drive 48 = .ok (.if_icmp .ge 27, 3) := by decide +kernel
theorem dX11_drive_51 : decode cX11_drive 51 = .ok (.aload_n 0, 1) := by decide +kernel
theorem dX11_drive_52 : decode cX11_drive 52 = .ok (.getfield 26, 3) := by decide +kernel
theorem dX11_drive_55 : decode cX11_drive 55 = .ok (.iload_n 1, 1) := by decide +kernel
theorem dX11_drive_56 : decode cX11_drive 56 = .ok (.invokevirtual 124, 3) := by decide +kernel
theorem dX11_drive_59 : decode cX11_drive 59 = .ok (.checkcast 139, 3) := by decide +kernel
theorem dX11_drive_62 : decode cX11_drive 62 = .ok (.getfield 187, 3) := by decide +kernel
theorem dX11_drive_65 : decode cX11_drive 65 = .ok (.iconst 0, 1) := by decide +kernel
theorem dX11_drive_66 : decode cX11_drive 66 = .ok (.putfield 246, 3) := by decide +kernel
theorem dX11_drive_69 : decode cX11_drive 69 = .ok (.iinc 1 1, 3) := by decide +kernel
theorem dX11_drive_72 : decode cX11_drive 72 = .ok (.goto (-32), 3) := by decide +kernel
theorem dX11_drive_75 : decode cX11_drive 75 = .ok (.aload_n 0, 1) := by decide +kernel
theorem dX11_drive_76 : decode cX11_drive 76 = .ok (.dup, 1) := by decide +kernel
theorem dX11_drive_77 : decode cX11_drive 77 = .ok (.getfield 67, 3) := by decide +kernel
theorem dX11_drive_80 : decode cX11_drive 80 = .ok (.iconst 1, 1) := by decide +kernel
theorem dX11_drive_81 : decode cX11_drive 81 = .ok (.iadd, 1) := by decide +kernel
theorem dX11_drive_82 : decode cX11_drive 82 = .ok (.putfield 67, 3) := by decide +kernel
theorem dX11_drive_85 : decode cX11_drive 85 = .ok (.aload_n 0, 1) := by decide +kernel
theorem dX11_drive_86 : decode cX11_drive 86 = .ok (.getfield 46, 3) := by decide +kernel
theorem dX11_drive_89 : decode cX11_drive 89 = .ok (.getfield 274, 3) := by decide +kernel
theorem dX11_drive_92 : decode cX11_drive 92 = .ok (.ireturn, 1) := by decide +kernel
theorem dX11_foresee_0 : decode cX11_foresee 0 = .ok (.iload_n 1, 1) := by decide +kernel
theorem dX11_foresee_1 : decode cX11_foresee 1 = .ok (.iconst 3, 1) := by decide +kernel
theorem dX11_foresee_2 : decode cX11_foresee 2 = .ok (.invokestatic 71, 3) := by decide +kernel
theorem dX11_foresee_5 : decode cX11_foresee 5 = .ok (.aload_n 0, 1) := by decide +kernel
theorem dX11_foresee_6 : decode cX11_foresee 6 = .ok (.iconst 4, 1) := by decide +kernel
theorem dX11_foresee_7 : decode cX11_foresee 7 = .ok (.invokevirtual 277, 3) := by decide +kernel
theorem dX11_foresee_10 : decode cX11_foresee 10 = .ok (.istore_n 2, 1) := by decide +kernel
theorem dX11_foresee_11 : decode cX11_foresee 11 = .ok (.aload_n 0, 1) := by decide +kernel
theorem dX11_foresee_12 : decode cX11_foresee 12 = .ok (.invokevirtual 280, 3) := by decide +kernel
theorem dX11_foresee_15 : decode cX11_foresee 15 = .ok (.aload_n 0, 1) := by decide +kernel
theorem dX11_foresee_16 : decode cX11_foresee 16 = .ok (.invokevirtual 271, 3) := by decide +kernel
theorem dX11_foresee_19 : decode cX11_foresee 19 = .ok (.aload_n 0, 1) := by decide +kernel
theorem dX11_foresee_20 : decode cX11_foresee 20 = .ok (.iconst 4, 1) := by decide +kernel
theorem dX11_foresee_21 : decode cX11_foresee 21 = .ok (.invokevirtual 277, 3) := by decide +kernel
theorem dX11_foresee_24 : decode cX11_foresee 24 = .ok (.iload_n 2, 1) := by decide +kernel
theorem dX11_foresee_25 : decode cX11_foresee 25 = .ok (.isub, 1) := by decide +kernel
theorem dX11_foresee_26 : decode cX11_foresee 26 = .ok (.istore_n 3, 1) := by decide +kernel
theorem dX11_foresee_27 : decode cX11_foresee 27 = .ok (.aload_n 0, 1) := by decide +kernel
theorem dX11_foresee_28 : decode cX11_foresee 28 = .ok (.invokevirtual 283, 3) := by decide +kernel
theorem dX11_foresee_31 : decode cX11_foresee 31 = .ok (.iload_n 1, 1) := by decide +kernel
theorem dX11_foresee_32 : decode cX11_foresee 32 = .ok (.lookupswitch 38 #[(0, 28), (1, 36)], 28) := by decide +kernel
theorem dX11_foresee_60 : decode cX11_foresee 60 = .ok (.aload_n 0, 1) := by decide +kernel
theorem dX11_foresee_61 : decode cX11_foresee 61 = .ok (.getfield 46, 3) := by decide +kernel
theorem dX11_foresee_64 : decode cX11_foresee 64 = .ok (.getfield 274, 3) := by decide +kernel
theorem dX11_foresee_67 : decode cX11_foresee 67 = .ok (.ireturn, 1) := by decide +kernel
theorem dX11_foresee_68 : decode cX11_foresee 68 = .ok (.iload_n 3, 1) := by decide +kernel
theorem dX11_foresee_69 : decode cX11_foresee 69 = .ok (.ireturn, 1) := by decide +kernel
theorem dX11_foresee_70 : decode cX11_foresee 70 = .ok (.aload_n 0, 1) := by decide +kernel
theorem dX11_foresee_71 : decode cX11_foresee 71 = .ok (.getfield 46, 3) := by decide +kernel
theorem dX11_foresee_74 : decode cX11_foresee 74 = .ok (.getfield 286, 3) := by decide +kernel
theorem dX11_foresee_77 : decode cX11_foresee 77 = .ok (.ireturn, 1) := by decide +kernel
theorem dX11_hour_0 : decode cX11_hour 0 = .ok (.iload_n 1, 1) := by decide +kernel
theorem dX11_hour_1 : decode cX11_hour 1 = .ok (.aload_n 0, 1) := by decide +kernel
theorem dX11_hour_2 : decode cX11_hour 2 = .ok (.getfield 19, 3) := by decide +kernel
theorem dX11_hour_5 : decode cX11_hour 5 = .ok (.invokevirtual 101, 3) := by decide +kernel
theorem dX11_hour_8 : decode cX11_hour 8 = .ok (.invokestatic 71, 3) := by decide +kernel
theorem dX11_hour_11 : decode cX11_hour 11 = .ok (.aload_n 0, 1) := by decide +kernel
theorem dX11_hour_12 : decode cX11_hour 12 = .ok (.getfield 19, 3) := by decide +kernel
theorem dX11_hour_15 : decode cX11_hour 15 = .ok (.iload_n 1, 1) := by decide +kernel
theorem dX11_hour_16 : decode cX11_hour 16 = .ok (.invokevirtual 124, 3) := by decide +kernel
theorem dX11_hour_19 : decode cX11_hour 19 = .ok (.checkcast 108, 3) := by decide +kernel
theorem dX11_hour_22 : decode cX11_hour 22 = .ok (.astore_n 2, 1) := by decide +kernel
theorem dX11_hour_23 : decode cX11_hour 23 = .ok (.iconst (-1), 1) := by decide +kernel
theorem dX11_hour_24 : decode cX11_hour 24 = .ok (.istore_n 3, 1) := by decide +kernel
theorem dX11_hour_25 : decode cX11_hour 25 = .ok (.iconst 0, 1) := by decide +kernel
theorem dX11_hour_26 : decode cX11_hour 26 = .ok (.istore 4, 2) := by decide +kernel
theorem dX11_hour_28 : decode cX11_hour 28 = .ok (.iconst 0, 1) := by decide +kernel
theorem dX11_hour_29 : decode cX11_hour 29 = .ok (.istore 5, 2) := by decide +kernel
theorem dX11_hour_31 : decode cX11_hour 31 = .ok (.iload 5, 2) := by decide +kernel
theorem dX11_hour_33 : decode cX11_hour 33 = .ok (.bipush 24, 2) := by decide +kernel
theorem dX11_hour_35 : decode cX11_hour 35 = .ok (.if_icmp .ge 31, 3) := by decide +kernel
theorem dX11_hour_38 : decode cX11_hour 38 = .ok (.aload_n 2, 1) := by decide +kernel
theorem dX11_hour_39 : decode cX11_hour 39 = .ok (.iload 5, 2) := by decide +kernel
theorem dX11_hour_41 : decode cX11_hour 41 = .ok (.invokevirtual 289, 3) := by decide +kernel
theorem dX11_hour_44 : decode cX11_hour 44 = .ok (.istore 6, 2) := by decide +kernel
theorem dX11_hour_46 : decode cX11_hour 46 = .ok (.iload 6, 2) := by decide +kernel
theorem dX11_hour_48 : decode cX11_hour 48 = .ok (.iload 4, 2) := by decide +kernel
theorem dX11_hour_50 : decode cX11_hour 50 = .ok (.if_icmp .le 10, 3) := by decide +kernel
theorem dX11_hour_53 : decode cX11_hour 53 = .ok (.iload 6, 2) := by decide +kernel
theorem dX11_hour_55 : decode cX11_hour 55 = .ok (.istore 4, 2) := by decide +kernel
theorem dX11_hour_57 : decode cX11_hour 57 = .ok (.iload 5, 2) := by decide +kernel
theorem dX11_hour_59 : decode cX11_hour 59 = .ok (.istore_n 3, 1) := by decide +kernel
theorem dX11_hour_60 : decode cX11_hour 60 = .ok (.iinc 5 1, 3) := by decide +kernel
theorem dX11_hour_63 : decode cX11_hour 63 = .ok (.goto (-32), 3) := by decide +kernel
theorem dX11_hour_66 : decode cX11_hour 66 = .ok (.iload_n 3, 1) := by decide +kernel
theorem dX11_hour_67 : decode cX11_hour 67 = .ok (.ireturn, 1) := by decide +kernel
theorem dX11_digest_0 : decode cX11_digest 0 = .ok (.ldc2_w 299, 3) := by decide +kernel
theorem dX11_digest_3 : decode cX11_digest 3 = .ok (.lstore_n 1, 1) := by decide +kernel
theorem dX11_digest_4 : decode cX11_digest 4 = .ok (.iconst 0, 1) := by decide +kernel
theorem dX11_digest_5 : decode cX11_digest 5 = .ok (.istore_n 3, 1) := by decide +kernel
theorem dX11_digest_6 : decode cX11_digest 6 = .ok (.iload_n 3, 1) := by decide +kernel
theorem dX11_digest_7 : decode cX11_digest 7 = .ok (.bipush 12, 2) := by decide +kernel
theorem dX11_digest_9 : decode cX11_digest 9 = .ok (.if_icmp .ge 20, 3) := by decide +kernel
theorem dX11_digest_12 : decode cX11_digest 12 = .ok (.lload_n 1, 1) := by decide +kernel
theorem dX11_digest_13 : decode cX11_digest 13 = .ok (.aload_n 0, 1) := by decide +kernel
theorem dX11_digest_14 : decode cX11_digest 14 = .ok (.iload_n 3, 1) := by decide +kernel
theorem dX11_digest_15 : decode cX11_digest 15 = .ok (.invokevirtual 267, 3) := by decide +kernel
theorem dX11_digest_18 : decode cX11_digest 18 = .ok (.i2l, 1) := by decide +kernel
theorem dX11_digest_19 : decode cX11_digest 19 = .ok (.invokestatic 301, 3) := by decide +kernel
theorem dX11_digest_22 : decode cX11_digest 22 = .ok (.lstore_n 1, 1) := by decide +kernel
theorem dX11_digest_23 : decode cX11_digest 23 = .ok (.iinc 3 1, 3) := by decide +kernel
theorem dX11_digest_26 : decode cX11_digest 26 = .ok (.goto (-20), 3) := by decide +kernel
theorem dX11_digest_29 : decode cX11_digest 29 = .ok (.iconst 0, 1) := by decide +kernel
theorem dX11_digest_30 : decode cX11_digest 30 = .ok (.istore_n 3, 1) := by decide +kernel
theorem dX11_digest_31 : decode cX11_digest 31 = .ok (.iload_n 3, 1) := by decide +kernel
theorem dX11_digest_32 : decode cX11_digest 32 = .ok (.bipush 24, 2) := by decide +kernel
theorem dX11_digest_34 : decode cX11_digest 34 = .ok (.if_icmp .ge 24, 3) := by decide +kernel
theorem dX11_digest_37 : decode cX11_digest 37 = .ok (.lload_n 1, 1) := by decide +kernel
theorem dX11_digest_38 : decode cX11_digest 38 = .ok (.aload_n 0, 1) := by decide +kernel
theorem dX11_digest_39 : decode cX11_digest 39 = .ok (.getfield 10, 3) := by decide +kernel
theorem dX11_digest_42 : decode cX11_digest 42 = .ok (.getfield 79, 3) := by decide +kernel
theorem dX11_digest_45 : decode cX11_digest 45 = .ok (.iload_n 3, 1) := by decide +kernel
theorem dX11_digest_46 : decode cX11_digest 46 = .ok (.iaload, 1) := by decide +kernel
theorem dX11_digest_47 : decode cX11_digest 47 = .ok (.i2l, 1) := by decide +kernel
theorem dX11_digest_48 : decode cX11_digest 48 = .ok (.invokestatic 301, 3) := by decide +kernel
theorem dX11_digest_51 : decode cX11_digest 51 = .ok (.lstore_n 1, 1) := by decide +kernel
theorem dX11_digest_52 : decode cX11_digest 52 = .ok (.iinc 3 1, 3) := by decide +kernel
theorem dX11_digest_55 : decode cX11_digest 55 = .ok (.goto (-24), 3) := by decide +kernel
theorem dX11_digest_58 : decode cX11_digest 58 = .ok (.lload_n 1, 1) := by decide +kernel
theorem dX11_digest_59 : decode cX11_digest 59 = .ok (.aload_n 0, 1) := by decide +kernel
theorem dX11_digest_60 : decode cX11_digest 60 = .ok (.getfield 10, 3) := by decide +kernel
theorem dX11_digest_63 : decode cX11_digest 63 = .ok (.getfield 86, 3) := by decide +kernel
theorem dX11_digest_66 : decode cX11_digest 66 = .ok (.getfield 94, 3) := by decide +kernel
theorem dX11_digest_69 : decode cX11_digest 69 = .ok (.i2l, 1) := by decide +kernel
theorem dX11_digest_70 : decode cX11_digest 70 = .ok (.invokestatic 301, 3) := by decide +kernel
theorem dX11_digest_73 : decode cX11_digest 73 = .ok (.lstore_n 1, 1) := by decide +kernel
theorem dX11_digest_74 : decode cX11_digest 74 = .ok (.lload_n 1, 1) := by decide +kernel
theorem dX11_digest_75 : decode cX11_digest 75 = .ok (.aload_n 0, 1) := by decide +kernel
theorem dX11_digest_76 : decode cX11_digest 76 = .ok (.getfield 10, 3) := by decide +kernel
theorem dX11_digest_79 : decode cX11_digest 79 = .ok (.getfield 86, 3) := by decide +kernel
theorem dX11_digest_82 : decode cX11_digest 82 = .ok (.getfield 97, 3) := by decide +kernel
theorem dX11_digest_85 : decode cX11_digest 85 = .ok (.i2l, 1) := by decide +kernel
theorem dX11_digest_86 : decode cX11_digest 86 = .ok (.invokestatic 301, 3) := by decide +kernel
theorem dX11_digest_89 : decode cX11_digest 89 = .ok (.lstore_n 1, 1) := by decide +kernel
theorem dX11_digest_90 : decode cX11_digest 90 = .ok (.aload_n 0, 1) := by decide +kernel
theorem dX11_digest_91 : decode cX11_digest 91 = .ok (.lload_n 1, 1) := by decide +kernel
theorem dX11_digest_92 : decode cX11_digest 92 = .ok (.invokevirtual 305, 3) := by decide +kernel
theorem dX11_digest_95 : decode cX11_digest 95 = .ok (.lstore_n 1, 1) := by decide +kernel
theorem dX11_digest_96 : decode cX11_digest 96 = .ok (.aload_n 0, 1) := by decide +kernel
theorem dX11_digest_97 : decode cX11_digest 97 = .ok (.lload_n 1, 1) := by decide +kernel
theorem dX11_digest_98 : decode cX11_digest 98 = .ok (.invokevirtual 309, 3) := by decide +kernel
theorem dX11_digest_101 : decode cX11_digest 101 = .ok (.lstore_n 1, 1) := by decide +kernel
theorem dX11_digest_102 : decode cX11_digest 102 = .ok (.aload_n 0, 1) := by decide +kernel
theorem dX11_digest_103 : decode cX11_digest 103 = .ok (.lload_n 1, 1) := by decide +kernel
theorem dX11_digest_104 : decode cX11_digest 104 = .ok (.invokevirtual 312, 3) := by decide +kernel
theorem dX11_digest_107 : decode cX11_digest 107 = .ok (.lstore_n 1, 1) := by decide +kernel
theorem dX11_digest_108 : decode cX11_digest 108 = .ok (.aload_n 0, 1) := by decide +kernel
theorem dX11_digest_109 : decode cX11_digest 109 = .ok (.lload_n 1, 1) := by decide +kernel
theorem dX11_digest_110 : decode cX11_digest 110 = .ok (.invokevirtual 315, 3) := by decide +kernel
theorem dX11_digest_113 : decode cX11_digest 113 = .ok (.lreturn, 1) := by decide +kernel
theorem dX11_needIndex_0 : decode cX11_needIndex 0 = .ok (.iload_n 0, 1) := by decide +kernel
theorem dX11_needIndex_1 : decode cX11_needIndex 1 = .ok (.ifCond .lt 8, 3) := by decide +kernel
theorem dX11_needIndex_4 : decode cX11_needIndex 4 = .ok (.iload_n 0, 1) := by decide +kernel
theorem dX11_needIndex_5 : decode cX11_needIndex 5 = .ok (.iload_n 1, 1) := by decide +kernel
theorem dX11_needIndex_6 : decode cX11_needIndex 6 = .ok (.if_icmp .lt 14, 3) := by decide +kernel
theorem dX11_needIndex_9 : decode cX11_needIndex 9 = .ok (.new 318, 3) := by decide +kernel
theorem dX11_needIndex_12 : decode cX11_needIndex 12 = .ok (.dup, 1) := by decide +kernel
theorem dX11_needIndex_13 : decode cX11_needIndex 13 = .ok (.ldc_w 320, 3) := by decide +kernel
theorem dX11_needIndex_16 : decode cX11_needIndex 16 = .ok (.invokespecial 322, 3) := by decide +kernel
theorem dX11_needIndex_19 : decode cX11_needIndex 19 = .ok (.athrow, 1) := by decide +kernel
theorem dX11_needIndex_20 : decode cX11_needIndex 20 = .ok (.return_, 1) := by decide +kernel
theorem dX11_needRange_0 : decode cX11_needRange 0 = .ok (.iload_n 0, 1) := by decide +kernel
theorem dX11_needRange_1 : decode cX11_needRange 1 = .ok (.iload_n 1, 1) := by decide +kernel
theorem dX11_needRange_2 : decode cX11_needRange 2 = .ok (.if_icmp .lt 8, 3) := by decide +kernel
theorem dX11_needRange_5 : decode cX11_needRange 5 = .ok (.iload_n 0, 1) := by decide +kernel
theorem dX11_needRange_6 : decode cX11_needRange 6 = .ok (.iload_n 2, 1) := by decide +kernel
theorem dX11_needRange_7 : decode cX11_needRange 7 = .ok (.if_icmp .le 14, 3) := by decide +kernel
theorem dX11_needRange_10 : decode cX11_needRange 10 = .ok (.new 117, 3) := by decide +kernel
theorem dX11_needRange_13 : decode cX11_needRange 13 = .ok (.dup, 1) := by decide +kernel
theorem dX11_needRange_14 : decode cX11_needRange 14 = .ok (.ldc_w 323, 3) := by decide +kernel
theorem dX11_needRange_17 : decode cX11_needRange 17 = .ok (.invokespecial 121, 3) := by decide +kernel
theorem dX11_needRange_20 : decode cX11_needRange 20 = .ok (.athrow, 1) := by decide +kernel
theorem dX11_needRange_21 : decode cX11_needRange 21 = .ok (.return_, 1) := by decide +kernel
theorem dX11_needPlace_0 : decode cX11_needPlace 0 = .ok (.iload_n 0, 1) := by decide +kernel
theorem dX11_needPlace_1 : decode cX11_needPlace 1 = .ok (.iconst 0, 1) := by decide +kernel
theorem dX11_needPlace_2 : decode cX11_needPlace 2 = .ok (.bipush 60, 2) := by decide +kernel
theorem dX11_needPlace_4 : decode cX11_needPlace 4 = .ok (.invokestatic 75, 3) := by decide +kernel
theorem dX11_needPlace_7 : decode cX11_needPlace 7 = .ok (.iload_n 1, 1) := by decide +kernel
theorem dX11_needPlace_8 : decode cX11_needPlace 8 = .ok (.iconst 0, 1) := by decide +kernel
theorem dX11_needPlace_9 : decode cX11_needPlace 9 = .ok (.bipush 60, 2) := by decide +kernel
theorem dX11_needPlace_11 : decode cX11_needPlace 11 = .ok (.invokestatic 75, 3) := by decide +kernel
theorem dX11_needPlace_14 : decode cX11_needPlace 14 = .ok (.return_, 1) := by decide +kernel
theorem dX11_needSpace_0 : decode cX11_needSpace 0 = .ok (.iload_n 0, 1) := by decide +kernel
theorem dX11_needSpace_1 : decode cX11_needSpace 1 = .ok (.iload_n 1, 1) := by decide +kernel
theorem dX11_needSpace_2 : decode cX11_needSpace 2 = .ok (.if_icmp .lt 14, 3) := by decide +kernel
theorem dX11_needSpace_5 : decode cX11_needSpace 5 = .ok (.new 172, 3) := by decide +kernel
theorem dX11_needSpace_8 : decode cX11_needSpace 8 = .ok (.dup, 1) := by decide +kernel
theorem dX11_needSpace_9 : decode cX11_needSpace 9 = .ok (.ldc_w 325, 3) := by decide +kernel
theorem dX11_needSpace_12 : decode cX11_needSpace 12 = .ok (.invokespecial 176, 3) := by decide +kernel
theorem dX11_needSpace_15 : decode cX11_needSpace 15 = .ok (.athrow, 1) := by decide +kernel
theorem dX11_needSpace_16 : decode cX11_needSpace 16 = .ok (.return_, 1) := by decide +kernel
theorem dX11_needStop_0 : decode cX11_needStop 0 = .ok (.iload_n 1, 1) := by decide +kernel
theorem dX11_needStop_1 : decode cX11_needStop 1 = .ok (.aload_n 0, 1) := by decide +kernel
theorem dX11_needStop_2 : decode cX11_needStop 2 = .ok (.getfield 26, 3) := by decide +kernel
theorem dX11_needStop_5 : decode cX11_needStop 5 = .ok (.invokevirtual 101, 3) := by decide +kernel
theorem dX11_needStop_8 : decode cX11_needStop 8 = .ok (.invokestatic 71, 3) := by decide +kernel
theorem dX11_needStop_11 : decode cX11_needStop 11 = .ok (.iload_n 2, 1) := by decide +kernel
theorem dX11_needStop_12 : decode cX11_needStop 12 = .ok (.aload_n 0, 1) := by decide +kernel
theorem dX11_needStop_13 : decode cX11_needStop 13 = .ok (.getfield 26, 3) := by decide +kernel
theorem dX11_needStop_16 : decode cX11_needStop 16 = .ok (.iload_n 1, 1) := by decide +kernel
theorem dX11_needStop_17 : decode cX11_needStop 17 = .ok (.invokevirtual 124, 3) := by decide +kernel
theorem dX11_needStop_20 : decode cX11_needStop 20 = .ok (.checkcast 139, 3) := by decide +kernel
theorem dX11_needStop_23 : decode cX11_needStop 23 = .ok (.getfield 187, 3) := by decide +kernel
theorem dX11_needStop_26 : decode cX11_needStop 26 = .ok (.getfield 246, 3) := by decide +kernel
theorem dX11_needStop_29 : decode cX11_needStop 29 = .ok (.invokestatic 71, 3) := by decide +kernel
theorem dX11_needStop_32 : decode cX11_needStop 32 = .ok (.return_, 1) := by decide +kernel
theorem dX11_needSpot_0 : decode cX11_needSpot 0 = .ok (.iload_n 1, 1) := by decide +kernel
theorem dX11_needSpot_1 : decode cX11_needSpot 1 = .ok (.aload_n 0, 1) := by decide +kernel
theorem dX11_needSpot_2 : decode cX11_needSpot 2 = .ok (.getfield 29, 3) := by decide +kernel
theorem dX11_needSpot_5 : decode cX11_needSpot 5 = .ok (.invokevirtual 101, 3) := by decide +kernel
theorem dX11_needSpot_8 : decode cX11_needSpot 8 = .ok (.invokestatic 71, 3) := by decide +kernel
theorem dX11_needSpot_11 : decode cX11_needSpot 11 = .ok (.iload_n 2, 1) := by decide +kernel
theorem dX11_needSpot_12 : decode cX11_needSpot 12 = .ok (.aload_n 0, 1) := by decide +kernel
theorem dX11_needSpot_13 : decode cX11_needSpot 13 = .ok (.getfield 26, 3) := by decide +kernel
theorem dX11_needSpot_16 : decode cX11_needSpot 16 = .ok (.invokevirtual 101, 3) := by decide +kernel
theorem dX11_needSpot_19 : decode cX11_needSpot 19 = .ok (.invokestatic 71, 3) := by decide +kernel
theorem dX11_needSpot_22 : decode cX11_needSpot 22 = .ok (.iload_n 3, 1) := by decide +kernel
theorem dX11_needSpot_23 : decode cX11_needSpot 23 = .ok (.aload_n 0, 1) := by decide +kernel
theorem dX11_needSpot_24 : decode cX11_needSpot 24 = .ok (.getfield 26, 3) := by decide +kernel
theorem dX11_needSpot_27 : decode cX11_needSpot 27 = .ok (.iload_n 2, 1) := by decide +kernel
theorem dX11_needSpot_28 : decode cX11_needSpot 28 = .ok (.invokevirtual 124, 3) := by decide +kernel
theorem dX11_needSpot_31 : decode cX11_needSpot 31 = .ok (.checkcast 139, 3) := by decide +kernel
theorem dX11_needSpot_34 : decode cX11_needSpot 34 = .ok (.getfield 187, 3) := by decide +kernel
theorem dX11_needSpot_37 : decode cX11_needSpot 37 = .ok (.getfield 246, 3) := by decide +kernel
theorem dX11_needSpot_40 : decode cX11_needSpot 40 = .ok (.iconst 1, 1) := by decide +kernel
theorem dX11_needSpot_41 : decode cX11_needSpot 41 = .ok (.iadd, 1) := by decide +kernel
theorem dX11_needSpot_42 : decode cX11_needSpot 42 = .ok (.invokestatic 71, 3) := by decide +kernel
theorem dX11_needSpot_45 : decode cX11_needSpot 45 = .ok (.return_, 1) := by decide +kernel
theorem dX11_factOfHome_0 : decode cX11_factOfHome 0 = .ok (.aload_n 0, 1) := by decide +kernel
theorem dX11_factOfHome_1 : decode cX11_factOfHome 1 = .ok (.getfield 19, 3) := by decide +kernel
theorem dX11_factOfHome_4 : decode cX11_factOfHome 4 = .ok (.iload_n 1, 1) := by decide +kernel
theorem dX11_factOfHome_5 : decode cX11_factOfHome 5 = .ok (.invokevirtual 124, 3) := by decide +kernel
theorem dX11_factOfHome_8 : decode cX11_factOfHome 8 = .ok (.checkcast 108, 3) := by decide +kernel
theorem dX11_factOfHome_11 : decode cX11_factOfHome 11 = .ok (.astore_n 3, 1) := by decide +kernel
theorem dX11_factOfHome_12 : decode cX11_factOfHome 12 = .ok (.iload_n 2, 1) := by decide +kernel
theorem dX11_factOfHome_13 : decode cX11_factOfHome 13 = .ok (.tableswitch 67 0 4 #[35, 43, 51, 56, 61], 35) := by decide +kernel
theorem dX11_factOfHome_48 : decode cX11_factOfHome 48 = .ok (.aload_n 3, 1) := by decide +kernel
theorem dX11_factOfHome_49 : decode cX11_factOfHome 49 = .ok (.getfield 327, 3) := by decide +kernel
theorem dX11_factOfHome_52 : decode cX11_factOfHome 52 = .ok (.getfield 94, 3) := by decide +kernel
theorem dX11_factOfHome_55 : decode cX11_factOfHome 55 = .ok (.ireturn, 1) := by decide +kernel
theorem dX11_factOfHome_56 : decode cX11_factOfHome 56 = .ok (.aload_n 3, 1) := by decide +kernel
theorem dX11_factOfHome_57 : decode cX11_factOfHome 57 = .ok (.getfield 327, 3) := by decide +kernel
theorem dX11_factOfHome_60 : decode cX11_factOfHome 60 = .ok (.getfield 97, 3) := by decide +kernel
theorem dX11_factOfHome_63 : decode cX11_factOfHome 63 = .ok (.ireturn, 1) := by decide +kernel
theorem dX11_factOfHome_64 : decode cX11_factOfHome 64 = .ok (.aload_n 3, 1) := by decide +kernel
theorem dX11_factOfHome_65 : decode cX11_factOfHome 65 = .ok (.getfield 330, 3) := by decide +kernel
theorem dX11_factOfHome_68 : decode cX11_factOfHome 68 = .ok (.ireturn, 1) := by decide +kernel
theorem dX11_factOfHome_69 : decode cX11_factOfHome 69 = .ok (.aload_n 3, 1) := by decide +kernel
theorem dX11_factOfHome_70 : decode cX11_factOfHome 70 = .ok (.getfield 128, 3) := by decide +kernel
theorem dX11_factOfHome_73 : decode cX11_factOfHome 73 = .ok (.ireturn, 1) := by decide +kernel
theorem dX11_factOfHome_74 : decode cX11_factOfHome 74 = .ok (.aload_n 0, 1) := by decide +kernel
theorem dX11_factOfHome_75 : decode cX11_factOfHome 75 = .ok (.iload_n 1, 1) := by decide +kernel
theorem dX11_factOfHome_76 : decode cX11_factOfHome 76 = .ok (.invokevirtual 333, 3) := by decide +kernel
theorem dX11_factOfHome_79 : decode cX11_factOfHome 79 = .ok (.ireturn, 1) := by decide +kernel
theorem dX11_factOfHome_80 : decode cX11_factOfHome 80 = .ok (.aload_n 0, 1) := by decide +kernel
theorem dX11_factOfHome_81 : decode cX11_factOfHome 81 = .ok (.iconst 3, 1) := by decide +kernel
theorem dX11_factOfHome_82 : decode cX11_factOfHome 82 = .ok (.iload_n 1, 1) := by decide +kernel
theorem dX11_factOfHome_83 : decode cX11_factOfHome 83 = .ok (.invokevirtual 336, 3) := by decide +kernel
theorem dX11_factOfHome_86 : decode cX11_factOfHome 86 = .ok (.ireturn, 1) := by decide +kernel
theorem dX11_factOfLocker_0 : decode cX11_factOfLocker 0 = .ok (.aload_n 0, 1) := by decide +kernel
theorem dX11_factOfLocker_1 : decode cX11_factOfLocker 1 = .ok (.getfield 23, 3) := by decide +kernel
theorem dX11_factOfLocker_4 : decode cX11_factOfLocker 4 = .ok (.iload_n 1, 1) := by decide +kernel
theorem dX11_factOfLocker_5 : decode cX11_factOfLocker 5 = .ok (.invokevirtual 124, 3) := by decide +kernel
theorem dX11_factOfLocker_8 : decode cX11_factOfLocker 8 = .ok (.checkcast 134, 3) := by decide +kernel
theorem dX11_factOfLocker_11 : decode cX11_factOfLocker 11 = .ok (.astore_n 3, 1) := by decide +kernel
theorem dX11_factOfLocker_12 : decode cX11_factOfLocker 12 = .ok (.iload_n 2, 1) := by decide +kernel
theorem dX11_factOfLocker_13 : decode cX11_factOfLocker 13 = .ok (.tableswitch 60 0 4 #[35, 43, 51, 51, 51], 35) := by decide +kernel
theorem dX11_factOfLocker_48 : decode cX11_factOfLocker 48 = .ok (.aload_n 3, 1) := by decide +kernel
theorem dX11_factOfLocker_49 : decode cX11_factOfLocker 49 = .ok (.getfield 339, 3) := by decide +kernel
theorem dX11_factOfLocker_52 : decode cX11_factOfLocker 52 = .ok (.getfield 94, 3) := by decide +kernel
theorem dX11_factOfLocker_55 : decode cX11_factOfLocker 55 = .ok (.ireturn, 1) := by decide +kernel
theorem dX11_factOfLocker_56 : decode cX11_factOfLocker 56 = .ok (.aload_n 3, 1) := by decide +kernel
theorem dX11_factOfLocker_57 : decode cX11_factOfLocker 57 = .ok (.getfield 339, 3) := by decide +kernel
theorem dX11_factOfLocker_60 : decode cX11_factOfLocker 60 = .ok (.getfield 97, 3) := by decide +kernel
theorem dX11_factOfLocker_63 : decode cX11_factOfLocker 63 = .ok (.ireturn, 1) := by decide +kernel
theorem dX11_factOfLocker_64 : decode cX11_factOfLocker 64 = .ok (.aload_n 3, 1) := by decide +kernel
theorem dX11_factOfLocker_65 : decode cX11_factOfLocker 65 = .ok (.getfield 340, 3) := by decide +kernel
theorem dX11_factOfLocker_68 : decode cX11_factOfLocker 68 = .ok (.iload_n 2, 1) := by decide +kernel
theorem dX11_factOfLocker_69 : decode cX11_factOfLocker 69 = .ok (.iconst 2, 1) := by decide +kernel
theorem dX11_factOfLocker_70 : decode cX11_factOfLocker 70 = .ok (.isub, 1) := by decide +kernel
theorem dX11_factOfLocker_71 : decode cX11_factOfLocker 71 = .ok (.iaload, 1) := by decide +kernel
theorem dX11_factOfLocker_72 : decode cX11_factOfLocker 72 = .ok (.ireturn, 1) := by decide +kernel
theorem dX11_factOfLocker_73 : decode cX11_factOfLocker 73 = .ok (.aload_n 0, 1) := by decide +kernel
theorem dX11_factOfLocker_74 : decode cX11_factOfLocker 74 = .ok (.iconst 2, 1) := by decide +kernel
theorem dX11_factOfLocker_75 : decode cX11_factOfLocker 75 = .ok (.iload_n 1, 1) := by decide +kernel
theorem dX11_factOfLocker_76 : decode cX11_factOfLocker 76 = .ok (.invokevirtual 336, 3) := by decide +kernel
theorem dX11_factOfLocker_79 : decode cX11_factOfLocker 79 = .ok (.ireturn, 1) := by decide +kernel
theorem dX11_factOfParcel_0 : decode cX11_factOfParcel 0 = .ok (.iload_n 2, 1) := by decide +kernel
theorem dX11_factOfParcel_1 : decode cX11_factOfParcel 1 = .ok (.tableswitch 101 0 7 #[47, 52, 57, 62, 67, 72, 77, 82], 47) := by decide +kernel
theorem dX11_factOfParcel_48 : decode cX11_factOfParcel 48 = .ok (.aload_n 1, 1) := by decide +kernel
theorem dX11_factOfParcel_49 : decode cX11_factOfParcel 49 = .ok (.getfield 343, 3) := by decide +kernel
theorem dX11_factOfParcel_52 : decode cX11_factOfParcel 52 = .ok (.ireturn, 1) := by decide +kernel
theorem dX11_factOfParcel_53 : decode cX11_factOfParcel 53 = .ok (.aload_n 1, 1) := by decide +kernel
theorem dX11_factOfParcel_54 : decode cX11_factOfParcel 54 = .ok (.getfield 346, 3) := by decide +kernel
theorem dX11_factOfParcel_57 : decode cX11_factOfParcel 57 = .ok (.ireturn, 1) := by decide +kernel
theorem dX11_factOfParcel_58 : decode cX11_factOfParcel 58 = .ok (.aload_n 1, 1) := by decide +kernel
theorem dX11_factOfParcel_59 : decode cX11_factOfParcel 59 = .ok (.getfield 349, 3) := by decide +kernel
theorem dX11_factOfParcel_62 : decode cX11_factOfParcel 62 = .ok (.ireturn, 1) := by decide +kernel
theorem dX11_factOfParcel_63 : decode cX11_factOfParcel 63 = .ok (.aload_n 1, 1) := by decide +kernel
theorem dX11_factOfParcel_64 : decode cX11_factOfParcel 64 = .ok (.getfield 352, 3) := by decide +kernel
theorem dX11_factOfParcel_67 : decode cX11_factOfParcel 67 = .ok (.ireturn, 1) := by decide +kernel
theorem dX11_factOfParcel_68 : decode cX11_factOfParcel 68 = .ok (.aload_n 1, 1) := by decide +kernel
theorem dX11_factOfParcel_69 : decode cX11_factOfParcel 69 = .ok (.getfield 355, 3) := by decide +kernel
theorem dX11_factOfParcel_72 : decode cX11_factOfParcel 72 = .ok (.ireturn, 1) := by decide +kernel
theorem dX11_factOfParcel_73 : decode cX11_factOfParcel 73 = .ok (.aload_n 1, 1) := by decide +kernel
theorem dX11_factOfParcel_74 : decode cX11_factOfParcel 74 = .ok (.getfield 292, 3) := by decide +kernel
theorem dX11_factOfParcel_77 : decode cX11_factOfParcel 77 = .ok (.ireturn, 1) := by decide +kernel
theorem dX11_factOfParcel_78 : decode cX11_factOfParcel 78 = .ok (.aload_n 1, 1) := by decide +kernel
theorem dX11_factOfParcel_79 : decode cX11_factOfParcel 79 = .ok (.getfield 358, 3) := by decide +kernel
theorem dX11_factOfParcel_82 : decode cX11_factOfParcel 82 = .ok (.ireturn, 1) := by decide +kernel
theorem dX11_factOfParcel_83 : decode cX11_factOfParcel 83 = .ok (.aload_n 1, 1) := by decide +kernel
theorem dX11_factOfParcel_84 : decode cX11_factOfParcel 84 = .ok (.getfield 181, 3) := by decide +kernel
theorem dX11_factOfParcel_87 : decode cX11_factOfParcel 87 = .ok (.ifnonnull 7, 3) := by decide +kernel
theorem dX11_factOfParcel_90 : decode cX11_factOfParcel 90 = .ok (.iconst (-1), 1) := by decide +kernel
theorem dX11_factOfParcel_91 : decode cX11_factOfParcel 91 = .ok (.goto 10, 3) := by decide +kernel
theorem dX11_factOfParcel_94 : decode cX11_factOfParcel 94 = .ok (.aload_n 1, 1) := by decide +kernel
theorem dX11_factOfParcel_95 : decode cX11_factOfParcel 95 = .ok (.getfield 181, 3) := by decide +kernel
theorem dX11_factOfParcel_98 : decode cX11_factOfParcel 98 = .ok (.getfield 361, 3) := by decide +kernel
theorem dX11_factOfParcel_101 : decode cX11_factOfParcel 101 = .ok (.ireturn, 1) := by decide +kernel
theorem dX11_factOfParcel_102 : decode cX11_factOfParcel 102 = .ok (.aload_n 1, 1) := by decide +kernel
theorem dX11_factOfParcel_103 : decode cX11_factOfParcel 103 = .ok (.getfield 362, 3) := by decide +kernel
theorem dX11_factOfParcel_106 : decode cX11_factOfParcel 106 = .ok (.ireturn, 1) := by decide +kernel
theorem dX11_factOfVan_0 : decode cX11_factOfVan 0 = .ok (.aload_n 0, 1) := by decide +kernel
theorem dX11_factOfVan_1 : decode cX11_factOfVan 1 = .ok (.getfield 37, 3) := by decide +kernel
theorem dX11_factOfVan_4 : decode cX11_factOfVan 4 = .ok (.aload_n 1, 1) := by decide +kernel
theorem dX11_factOfVan_5 : decode cX11_factOfVan 5 = .ok (.aload_n 1, 1) := by decide +kernel
theorem dX11_factOfVan_6 : decode cX11_factOfVan 6 = .ok (.getfield 187, 3) := by decide +kernel
theorem dX11_factOfVan_9 : decode cX11_factOfVan 9 = .ok (.invokevirtual 190, 3) := by decide +kernel
theorem dX11_factOfVan_12 : decode cX11_factOfVan 12 = .ok (.istore_n 3, 1) := by decide +kernel
theorem dX11_factOfVan_13 : decode cX11_factOfVan 13 = .ok (.iload_n 2, 1) := by decide +kernel
theorem dX11_factOfVan_14 : decode cX11_factOfVan 14 = .ok (.tableswitch 116 0 8 #[50, 55, 60, 65, 73, 75, 86, 94, 105], 50) := by decide +kernel
theorem dX11_factOfVan_64 : decode cX11_factOfVan 64 = .ok (.aload_n 1, 1) := by decide +kernel
theorem dX11_factOfVan_65 : decode cX11_factOfVan 65 = .ok (.getfield 255, 3) := by decide +kernel
theorem dX11_factOfVan_68 : decode cX11_factOfVan 68 = .ok (.ireturn, 1) := by decide +kernel
theorem dX11_factOfVan_69 : decode cX11_factOfVan 69 = .ok (.aload_n 1, 1) := by decide +kernel
theorem dX11_factOfVan_70 : decode cX11_factOfVan 70 = .ok (.getfield 365, 3) := by decide +kernel
theorem dX11_factOfVan_73 : decode cX11_factOfVan 73 = .ok (.ireturn, 1) := by decide +kernel
theorem dX11_factOfVan_74 : decode cX11_factOfVan 74 = .ok (.aload_n 1, 1) := by decide +kernel
theorem dX11_factOfVan_75 : decode cX11_factOfVan 75 = .ok (.getfield 368, 3) := by decide +kernel
theorem dX11_factOfVan_78 : decode cX11_factOfVan 78 = .ok (.ireturn, 1) := by decide +kernel
theorem dX11_factOfVan_79 : decode cX11_factOfVan 79 = .ok (.aload_n 1, 1) := by decide +kernel
theorem dX11_factOfVan_80 : decode cX11_factOfVan 80 = .ok (.getfield 187, 3) := by decide +kernel
theorem dX11_factOfVan_83 : decode cX11_factOfVan 83 = .ok (.getfield 246, 3) := by decide +kernel
theorem dX11_factOfVan_86 : decode cX11_factOfVan 86 = .ok (.ireturn, 1) := by decide +kernel
theorem dX11_factOfVan_87 : decode cX11_factOfVan 87 = .ok (.iload_n 3, 1) := by decide +kernel
theorem dX11_factOfVan_88 : decode cX11_factOfVan 88 = .ok (.ireturn, 1) := by decide +kernel
theorem dX11_factOfVan_89 : decode cX11_factOfVan 89 = .ok (.aload_n 0, 1) := by decide +kernel
theorem dX11_factOfVan_90 : decode cX11_factOfVan 90 = .ok (.getfield 37, 3) := by decide +kernel
theorem dX11_factOfVan_93 : decode cX11_factOfVan 93 = .ok (.getfield 371, 3) := by decide +kernel
theorem dX11_factOfVan_96 : decode cX11_factOfVan 96 = .ok (.getfield 375, 3) := by decide +kernel
theorem dX11_factOfVan_99 : decode cX11_factOfVan 99 = .ok (.ireturn, 1) := by decide +kernel
theorem dX11_factOfVan_100 : decode cX11_factOfVan 100 = .ok (.aload_n 0, 1) := by decide +kernel
theorem dX11_factOfVan_101 : decode cX11_factOfVan 101 = .ok (.getfield 37, 3) := by decide +kernel
theorem dX11_factOfVan_104 : decode cX11_factOfVan 104 = .ok (.getfield 380, 3) := by decide +kernel
theorem dX11_factOfVan_107 : decode cX11_factOfVan 107 = .ok (.ireturn, 1) := by decide +kernel
theorem dX11_factOfVan_108 : decode cX11_factOfVan 108 = .ok (.aload_n 0, 1) := by decide +kernel
theorem dX11_factOfVan_109 : decode cX11_factOfVan 109 = .ok (.getfield 37, 3) := by decide +kernel
theorem dX11_factOfVan_112 : decode cX11_factOfVan 112 = .ok (.getfield 371, 3) := by decide +kernel
theorem dX11_factOfVan_115 : decode cX11_factOfVan 115 = .ok (.getfield 383, 3) := by decide +kernel
theorem dX11_factOfVan_118 : decode cX11_factOfVan 118 = .ok (.ireturn, 1) := by decide +kernel
theorem dX11_factOfVan_119 : decode cX11_factOfVan 119 = .ok (.aload_n 0, 1) := by decide +kernel
theorem dX11_factOfVan_120 : decode cX11_factOfVan 120 = .ok (.getfield 37, 3) := by decide +kernel
theorem dX11_factOfVan_123 : decode cX11_factOfVan 123 = .ok (.getfield 371, 3) := by decide +kernel
theorem dX11_factOfVan_126 : decode cX11_factOfVan 126 = .ok (.getfield 386, 3) := by decide +kernel
theorem dX11_factOfVan_129 : decode cX11_factOfVan 129 = .ok (.ireturn, 1) := by decide +kernel
theorem dX11_factOfVan_130 : decode cX11_factOfVan 130 = .ok (.aload_n 1, 1) := by decide +kernel
theorem dX11_factOfVan_131 : decode cX11_factOfVan 131 = .ok (.getfield 187, 3) := by decide +kernel
theorem dX11_factOfVan_134 : decode cX11_factOfVan 134 = .ok (.invokevirtual 389, 3) := by decide +kernel
theorem dX11_factOfVan_137 : decode cX11_factOfVan 137 = .ok (.ireturn, 1) := by decide +kernel
theorem dX11_counted_0 : decode cX11_counted 0 = .ok (.iload_n 1, 1) := by decide +kernel
theorem dX11_counted_1 : decode cX11_counted 1 = .ok (.tableswitch 131 0 10 #[59, 64, 72, 80, 88, 96, 102, 107, 113, 119, 125], 59) := by decide +kernel
theorem dX11_counted_60 : decode cX11_counted 60 = .ok (.aload_n 0, 1) := by decide +kernel
theorem dX11_counted_61 : decode cX11_counted 61 = .ok (.getfield 67, 3) := by decide +kernel
theorem dX11_counted_64 : decode cX11_counted 64 = .ok (.ireturn, 1) := by decide +kernel
theorem dX11_counted_65 : decode cX11_counted 65 = .ok (.aload_n 0, 1) := by decide +kernel
theorem dX11_counted_66 : decode cX11_counted 66 = .ok (.getfield 19, 3) := by decide +kernel
theorem dX11_counted_69 : decode cX11_counted 69 = .ok (.invokevirtual 101, 3) := by decide +kernel
theorem dX11_counted_72 : decode cX11_counted 72 = .ok (.ireturn, 1) := by decide +kernel
theorem dX11_counted_73 : decode cX11_counted 73 = .ok (.aload_n 0, 1) := by decide +kernel
theorem dX11_counted_74 : decode cX11_counted 74 = .ok (.getfield 23, 3) := by decide +kernel
theorem dX11_counted_77 : decode cX11_counted 77 = .ok (.invokevirtual 101, 3) := by decide +kernel
theorem dX11_counted_80 : decode cX11_counted 80 = .ok (.ireturn, 1) := by decide +kernel
theorem dX11_counted_81 : decode cX11_counted 81 = .ok (.aload_n 0, 1) := by decide +kernel
theorem dX11_counted_82 : decode cX11_counted 82 = .ok (.getfield 26, 3) := by decide +kernel
theorem dX11_counted_85 : decode cX11_counted 85 = .ok (.invokevirtual 101, 3) := by decide +kernel
theorem dX11_counted_88 : decode cX11_counted 88 = .ok (.ireturn, 1) := by decide +kernel
theorem dX11_counted_89 : decode cX11_counted 89 = .ok (.aload_n 0, 1) := by decide +kernel
theorem dX11_counted_90 : decode cX11_counted 90 = .ok (.getfield 29, 3) := by decide +kernel
theorem dX11_counted_93 : decode cX11_counted 93 = .ok (.invokevirtual 101, 3) := by decide +kernel
theorem dX11_counted_96 : decode cX11_counted 96 = .ok (.ireturn, 1) := by decide +kernel
theorem dX11_counted_97 : decode cX11_counted 97 = .ok (.aload_n 0, 1) := by decide +kernel
theorem dX11_counted_98 : decode cX11_counted 98 = .ok (.iconst 0, 1) := by decide +kernel
theorem dX11_counted_99 : decode cX11_counted 99 = .ok (.invokevirtual 277, 3) := by decide +kernel
theorem dX11_counted_102 : decode cX11_counted 102 = .ok (.ireturn, 1) := by decide +kernel
theorem dX11_counted_103 : decode cX11_counted 103 = .ok (.aload_n 0, 1) := by decide +kernel
theorem dX11_counted_104 : decode cX11_counted 104 = .ok (.invokevirtual 392, 3) := by decide +kernel
theorem dX11_counted_107 : decode cX11_counted 107 = .ok (.ireturn, 1) := by decide +kernel
theorem dX11_counted_108 : decode cX11_counted 108 = .ok (.aload_n 0, 1) := by decide +kernel
theorem dX11_counted_109 : decode cX11_counted 109 = .ok (.iconst 1, 1) := by decide +kernel
theorem dX11_counted_110 : decode cX11_counted 110 = .ok (.invokevirtual 277, 3) := by decide +kernel
theorem dX11_counted_113 : decode cX11_counted 113 = .ok (.ireturn, 1) := by decide +kernel
theorem dX11_counted_114 : decode cX11_counted 114 = .ok (.aload_n 0, 1) := by decide +kernel
theorem dX11_counted_115 : decode cX11_counted 115 = .ok (.iconst 2, 1) := by decide +kernel
theorem dX11_counted_116 : decode cX11_counted 116 = .ok (.invokevirtual 277, 3) := by decide +kernel
theorem dX11_counted_119 : decode cX11_counted 119 = .ok (.ireturn, 1) := by decide +kernel
theorem dX11_counted_120 : decode cX11_counted 120 = .ok (.aload_n 0, 1) := by decide +kernel
theorem dX11_counted_121 : decode cX11_counted 121 = .ok (.iconst 3, 1) := by decide +kernel
theorem dX11_counted_122 : decode cX11_counted 122 = .ok (.invokevirtual 277, 3) := by decide +kernel
theorem dX11_counted_125 : decode cX11_counted 125 = .ok (.ireturn, 1) := by decide +kernel
theorem dX11_counted_126 : decode cX11_counted 126 = .ok (.aload_n 0, 1) := by decide +kernel
theorem dX11_counted_127 : decode cX11_counted 127 = .ok (.iconst 4, 1) := by decide +kernel
theorem dX11_counted_128 : decode cX11_counted 128 = .ok (.invokevirtual 277, 3) := by decide +kernel
theorem dX11_counted_131 : decode cX11_counted 131 = .ok (.ireturn, 1) := by decide +kernel
theorem dX11_counted_132 : decode cX11_counted 132 = .ok (.aload_n 0, 1) := by decide +kernel
theorem dX11_counted_133 : decode cX11_counted 133 = .ok (.invokevirtual 395, 3) := by decide +kernel
theorem dX11_counted_136 : decode cX11_counted 136 = .ok (.ireturn, 1) := by decide +kernel
theorem dX11_inState_0 : decode cX11_inState 0 = .ok (.iconst 0, 1) := by decide +kernel
theorem dX11_inState_1 : decode cX11_inState 1 = .ok (.istore_n 2, 1) := by decide +kernel
theorem dX11_inState_2 : decode cX11_inState 2 = .ok (.iconst 0, 1) := by decide +kernel
theorem dX11_inState_3 : decode cX11_inState 3 = .ok (.istore_n 3, 1) := by decide +kernel
theorem dX11_inState_4 : decode cX11_inState 4 = .ok (.iload_n 3, 1) := by decide +kernel
theorem dX11_inState_5 : decode cX11_inState 5 = .ok (.aload_n 0, 1) := by decide +kernel
theorem dX11_inState_6 : decode cX11_inState 6 = .ok (.getfield 29, 3) := by decide +kernel
theorem dX11_inState_9 : decode cX11_inState 9 = .ok (.invokevirtual 101, 3) := by decide +kernel
theorem dX11_inState_12 : decode cX11_inState 12 = .ok (.if_icmp .ge 30, 3) := by decide +kernel
theorem dX11_inState_15 : decode cX11_inState 15 = .ok (.aload_n 0, 1) := by decide +kernel
theorem dX11_inState_16 : decode cX11_inState 16 = .ok (.getfield 29, 3) := by decide +kernel
theorem dX11_inState_19 : decode cX11_inState 19 = .ok (.iload_n 3, 1) := by decide +kernel
theorem dX11_inState_20 : decode cX11_inState 20 = .ok (.invokevirtual 124, 3) := by decide +kernel
theorem dX11_inState_23 : decode cX11_inState 23 = .ok (.checkcast 144, 3) := by decide +kernel
theorem dX11_inState_26 : decode cX11_inState 26 = .ok (.getfield 358, 3) := by decide +kernel
theorem dX11_inState_29 : decode cX11_inState 29 = .ok (.iload_n 1, 1) := by decide +kernel
theorem dX11_inState_30 : decode cX11_inState 30 = .ok (.if_icmp .ne 6, 3) := by decide +kernel
theorem dX11_inState_33 : decode cX11_inState 33 = .ok (.iinc 2 1, 3) := by decide +kernel
theorem dX11_inState_36 : decode cX11_inState 36 = .ok (.iinc 3 1, 3) := by decide +kernel
theorem dX11_inState_39 : decode cX11_inState 39 = .ok (.goto (-35), 3) := by decide +kernel
theorem dX11_inState_42 : decode cX11_inState 42 = .ok (.iload_n 2, 1) := by decide +kernel
theorem dX11_inState_43 : decode cX11_inState 43 = .ok (.ireturn, 1) := by decide +kernel
theorem dX11_lyingAt_0 : decode cX11_lyingAt 0 = .ok (.iconst 0, 1) := by decide +kernel
theorem dX11_lyingAt_1 : decode cX11_lyingAt 1 = .ok (.istore_n 3, 1) := by decide +kernel
theorem dX11_lyingAt_2 : decode cX11_lyingAt 2 = .ok (.iconst 0, 1) := by decide +kernel
theorem dX11_lyingAt_3 : decode cX11_lyingAt 3 = .ok (.istore 4, 2) := by decide +kernel
theorem dX11_lyingAt_5 : decode cX11_lyingAt 5 = .ok (.iload 4, 2) := by decide +kernel
theorem dX11_lyingAt_7 : decode cX11_lyingAt 7 = .ok (.aload_n 0, 1) := by decide +kernel
theorem dX11_lyingAt_8 : decode cX11_lyingAt 8 = .ok (.getfield 29, 3) := by decide +kernel
theorem dX11_lyingAt_11 : decode cX11_lyingAt 11 = .ok (.invokevirtual 101, 3) := by decide +kernel
theorem dX11_lyingAt_14 : decode cX11_lyingAt 14 = .ok (.if_icmp .ge 44, 3) := by decide +kernel
theorem dX11_lyingAt_17 : decode cX11_lyingAt 17 = .ok (.aload_n 0, 1) := by decide +kernel
theorem dX11_lyingAt_18 : decode cX11_lyingAt 18 = .ok (.getfield 29, 3) := by decide +kernel
theorem dX11_lyingAt_21 : decode cX11_lyingAt 21 = .ok (.iload 4, 2) := by decide +kernel
theorem dX11_lyingAt_23 : decode cX11_lyingAt 23 = .ok (.invokevirtual 124, 3) := by decide +kernel
theorem dX11_lyingAt_26 : decode cX11_lyingAt 26 = .ok (.checkcast 144, 3) := by decide +kernel
theorem dX11_lyingAt_29 : decode cX11_lyingAt 29 = .ok (.astore 5, 2) := by decide +kernel
theorem dX11_lyingAt_31 : decode cX11_lyingAt 31 = .ok (.aload 5, 2) := by decide +kernel
theorem dX11_lyingAt_33 : decode cX11_lyingAt 33 = .ok (.getfield 358, 3) := by decide +kernel
theorem dX11_lyingAt_36 : decode cX11_lyingAt 36 = .ok (.iload_n 1, 1) := by decide +kernel
theorem dX11_lyingAt_37 : decode cX11_lyingAt 37 = .ok (.if_icmp .ne 15, 3) := by decide +kernel
theorem dX11_lyingAt_40 : decode cX11_lyingAt 40 = .ok (.aload 5, 2) := by decide +kernel
theorem dX11_lyingAt_42 : decode cX11_lyingAt 42 = .ok (.getfield 362, 3) := by decide +kernel
theorem dX11_lyingAt_45 : decode cX11_lyingAt 45 = .ok (.iload_n 2, 1) := by decide +kernel
theorem dX11_lyingAt_46 : decode cX11_lyingAt 46 = .ok (.if_icmp .ne 6, 3) := by decide +kernel
theorem dX11_lyingAt_49 : decode cX11_lyingAt 49 = .ok (.iinc 3 1, 3) := by decide +kernel
theorem dX11_lyingAt_52 : decode cX11_lyingAt 52 = .ok (.iinc 4 1, 3) := by decide +kernel
theorem dX11_lyingAt_55 : decode cX11_lyingAt 55 = .ok (.goto (-50), 3) := by decide +kernel
theorem dX11_lyingAt_58 : decode cX11_lyingAt 58 = .ok (.iload_n 3, 1) := by decide +kernel
theorem dX11_lyingAt_59 : decode cX11_lyingAt 59 = .ok (.ireturn, 1) := by decide +kernel
theorem dX11_waitingFor_0 : decode cX11_waitingFor 0 = .ok (.iconst 0, 1) := by decide +kernel
theorem dX11_waitingFor_1 : decode cX11_waitingFor 1 = .ok (.istore_n 2, 1) := by decide +kernel
theorem dX11_waitingFor_2 : decode cX11_waitingFor 2 = .ok (.iconst 0, 1) := by decide +kernel
theorem dX11_waitingFor_3 : decode cX11_waitingFor 3 = .ok (.istore_n 3, 1) := by decide +kernel
theorem dX11_waitingFor_4 : decode cX11_waitingFor 4 = .ok (.iload_n 3, 1) := by decide +kernel
theorem dX11_waitingFor_5 : decode cX11_waitingFor 5 = .ok (.aload_n 0, 1) := by decide +kernel
theorem dX11_waitingFor_6 : decode cX11_waitingFor 6 = .ok (.getfield 29, 3) := by decide +kernel
theorem dX11_waitingFor_9 : decode cX11_waitingFor 9 = .ok (.invokevirtual 101, 3) := by decide +kernel
theorem dX11_waitingFor_12 : decode cX11_waitingFor 12 = .ok (.if_icmp .ge 42, 3) := by decide +kernel
theorem dX11_waitingFor_15 : decode cX11_waitingFor 15 = .ok (.aload_n 0, 1) := by decide +kernel
theorem dX11_waitingFor_16 : decode cX11_waitingFor 16 = .ok (.getfield 29, 3) := by decide +kernel
theorem dX11_waitingFor_19 : decode cX11_waitingFor 19 = .ok (.iload_n 3, 1) := by decide +kernel
theorem dX11_waitingFor_20 : decode cX11_waitingFor 20 = .ok (.invokevirtual 124, 3) := by decide +kernel
theorem dX11_waitingFor_23 : decode cX11_waitingFor 23 = .ok (.checkcast 144, 3) := by decide +kernel
theorem dX11_waitingFor_26 : decode cX11_waitingFor 26 = .ok (.astore 4, 2) := by decide +kernel
theorem dX11_waitingFor_28 : decode cX11_waitingFor 28 = .ok (.aload 4, 2) := by decide +kernel
theorem dX11_waitingFor_30 : decode cX11_waitingFor 30 = .ok (.getfield 349, 3) := by decide +kernel
theorem dX11_waitingFor_33 : decode cX11_waitingFor 33 = .ok (.iload_n 1, 1) := by decide +kernel
theorem dX11_waitingFor_34 : decode cX11_waitingFor 34 = .ok (.if_icmp .ne 14, 3) := by decide +kernel
theorem dX11_waitingFor_37 : decode cX11_waitingFor 37 = .ok (.aload 4, 2) := by decide +kernel
theorem dX11_waitingFor_39 : decode cX11_waitingFor 39 = .ok (.getfield 358, 3) := by decide +kernel
theorem dX11_waitingFor_42 : decode cX11_waitingFor 42 = .ok (.ifCond .ne 6, 3) := by decide +kernel
theorem dX11_waitingFor_45 : decode cX11_waitingFor 45 = .ok (.iinc 2 1, 3) := by decide +kernel
theorem dX11_waitingFor_48 : decode cX11_waitingFor 48 = .ok (.iinc 3 1, 3) := by decide +kernel
theorem dX11_waitingFor_51 : decode cX11_waitingFor 51 = .ok (.goto (-47), 3) := by decide +kernel
theorem dX11_waitingFor_54 : decode cX11_waitingFor 54 = .ok (.iload_n 2, 1) := by decide +kernel
theorem dX11_waitingFor_55 : decode cX11_waitingFor 55 = .ok (.ireturn, 1) := by decide +kernel
theorem dX11_looseParcels_0 : decode cX11_looseParcels 0 = .ok (.iconst 0, 1) := by decide +kernel
theorem dX11_looseParcels_1 : decode cX11_looseParcels 1 = .ok (.istore_n 1, 1) := by decide +kernel
theorem dX11_looseParcels_2 : decode cX11_looseParcels 2 = .ok (.iconst 0, 1) := by decide +kernel
theorem dX11_looseParcels_3 : decode cX11_looseParcels 3 = .ok (.istore_n 2, 1) := by decide +kernel
theorem dX11_looseParcels_4 : decode cX11_looseParcels 4 = .ok (.iload_n 2, 1) := by decide +kernel
theorem dX11_looseParcels_5 : decode cX11_looseParcels 5 = .ok (.aload_n 0, 1) := by decide +kernel
theorem dX11_looseParcels_6 : decode cX11_looseParcels 6 = .ok (.getfield 29, 3) := by decide +kernel
theorem dX11_looseParcels_9 : decode cX11_looseParcels 9 = .ok (.invokevirtual 101, 3) := by decide +kernel
theorem dX11_looseParcels_12 : decode cX11_looseParcels 12 = .ok (.if_icmp .ge 29, 3) := by decide +kernel
theorem dX11_looseParcels_15 : decode cX11_looseParcels 15 = .ok (.aload_n 0, 1) := by decide +kernel
theorem dX11_looseParcels_16 : decode cX11_looseParcels 16 = .ok (.getfield 29, 3) := by decide +kernel
theorem dX11_looseParcels_19 : decode cX11_looseParcels 19 = .ok (.iload_n 2, 1) := by decide +kernel
theorem dX11_looseParcels_20 : decode cX11_looseParcels 20 = .ok (.invokevirtual 124, 3) := by decide +kernel
theorem dX11_looseParcels_23 : decode cX11_looseParcels 23 = .ok (.checkcast 144, 3) := by decide +kernel
theorem dX11_looseParcels_26 : decode cX11_looseParcels 26 = .ok (.invokestatic 163, 3) := by decide +kernel
theorem dX11_looseParcels_29 : decode cX11_looseParcels 29 = .ok (.ifCond .eq 6, 3) := by decide +kernel
theorem dX11_looseParcels_32 : decode cX11_looseParcels 32 = .ok (.iinc 1 1, 3) := by decide +kernel
theorem dX11_looseParcels_35 : decode cX11_looseParcels 35 = .ok (.iinc 2 1, 3) := by decide +kernel
theorem dX11_looseParcels_38 : decode cX11_looseParcels 38 = .ok (.goto (-34), 3) := by decide +kernel
theorem dX11_looseParcels_41 : decode cX11_looseParcels 41 = .ok (.iload_n 1, 1) := by decide +kernel
theorem dX11_looseParcels_42 : decode cX11_looseParcels 42 = .ok (.ireturn, 1) := by decide +kernel
theorem dX11_costOfAll_0 : decode cX11_costOfAll 0 = .ok (.iconst 0, 1) := by decide +kernel
theorem dX11_costOfAll_1 : decode cX11_costOfAll 1 = .ok (.istore_n 1, 1) := by decide +kernel
theorem dX11_costOfAll_2 : decode cX11_costOfAll 2 = .ok (.iconst 0, 1) := by decide +kernel
theorem dX11_costOfAll_3 : decode cX11_costOfAll 3 = .ok (.istore_n 2, 1) := by decide +kernel
theorem dX11_costOfAll_4 : decode cX11_costOfAll 4 = .ok (.iload_n 2, 1) := by decide +kernel
theorem dX11_costOfAll_5 : decode cX11_costOfAll 5 = .ok (.aload_n 0, 1) := by decide +kernel
theorem dX11_costOfAll_6 : decode cX11_costOfAll 6 = .ok (.getfield 26, 3) := by decide +kernel
theorem dX11_costOfAll_9 : decode cX11_costOfAll 9 = .ok (.invokevirtual 101, 3) := by decide +kernel
theorem dX11_costOfAll_12 : decode cX11_costOfAll 12 = .ok (.if_icmp .ge 44, 3) := by decide +kernel
theorem dX11_costOfAll_15 : decode cX11_costOfAll 15 = .ok (.iload_n 1, 1) := by decide +kernel
theorem dX11_costOfAll_16 : decode cX11_costOfAll 16 = .ok (.aload_n 0, 1) := by decide +kernel
theorem dX11_costOfAll_17 : decode cX11_costOfAll 17 = .ok (.getfield 37, 3) := by decide +kernel
theorem dX11_costOfAll_20 : decode cX11_costOfAll 20 = .ok (.aload_n 0, 1) := by decide +kernel
theorem dX11_costOfAll_21 : decode cX11_costOfAll 21 = .ok (.getfield 26, 3) := by decide +kernel
theorem dX11_costOfAll_24 : decode cX11_costOfAll 24 = .ok (.iload_n 2, 1) := by decide +kernel
theorem dX11_costOfAll_25 : decode cX11_costOfAll 25 = .ok (.invokevirtual 124, 3) := by decide +kernel
theorem dX11_costOfAll_28 : decode cX11_costOfAll 28 = .ok (.checkcast 139, 3) := by decide +kernel
theorem dX11_costOfAll_31 : decode cX11_costOfAll 31 = .ok (.aload_n 0, 1) := by decide +kernel
theorem dX11_costOfAll_32 : decode cX11_costOfAll 32 = .ok (.getfield 26, 3) := by decide +kernel
theorem dX11_costOfAll_35 : decode cX11_costOfAll 35 = .ok (.iload_n 2, 1) := by decide +kernel
theorem dX11_costOfAll_36 : decode cX11_costOfAll 36 = .ok (.invokevirtual 124, 3) := by decide +kernel
theorem dX11_costOfAll_39 : decode cX11_costOfAll 39 = .ok (.checkcast 139, 3) := by decide +kernel
theorem dX11_costOfAll_42 : decode cX11_costOfAll 42 = .ok (.getfield 187, 3) := by decide +kernel
theorem dX11_costOfAll_45 : decode cX11_costOfAll 45 = .ok (.invokevirtual 190, 3) := by decide +kernel
theorem dX11_costOfAll_48 : decode cX11_costOfAll 48 = .ok (.iadd, 1) := by decide +kernel
theorem dX11_costOfAll_49 : decode cX11_costOfAll 49 = .ok (.istore_n 1, 1) := by decide +kernel
theorem dX11_costOfAll_50 : decode cX11_costOfAll 50 = .ok (.iinc 2 1, 3) := by decide +kernel
theorem dX11_costOfAll_53 : decode cX11_costOfAll 53 = .ok (.goto (-49), 3) := by decide +kernel
theorem dX11_costOfAll_56 : decode cX11_costOfAll 56 = .ok (.iload_n 1, 1) := by decide +kernel
theorem dX11_costOfAll_57 : decode cX11_costOfAll 57 = .ok (.ireturn, 1) := by decide +kernel
theorem dX11_isLoose_0 : decode cX11_isLoose 0 = .ok (.aload_n 0, 1) := by decide +kernel
theorem dX11_isLoose_1 : decode cX11_isLoose 1 = .ok (.getfield 358, 3) := by decide +kernel
theorem dX11_isLoose_4 : decode cX11_isLoose 4 = .ok (.ifCond .ne 14, 3) := by decide +kernel
theorem dX11_isLoose_7 : decode cX11_isLoose 7 = .ok (.aload_n 0, 1) := by decide +kernel
theorem dX11_isLoose_8 : decode cX11_isLoose 8 = .ok (.getfield 181, 3) := by decide +kernel
theorem dX11_isLoose_11 : decode cX11_isLoose 11 = .ok (.ifnonnull 7, 3) := by decide +kernel
theorem dX11_isLoose_14 : decode cX11_isLoose 14 = .ok (.iconst 1, 1) := by decide +kernel
theorem dX11_isLoose_15 : decode cX11_isLoose 15 = .ok (.goto 4, 3) := by decide +kernel
theorem dX11_isLoose_18 : decode cX11_isLoose 18 = .ok (.iconst 0, 1) := by decide +kernel
theorem dX11_isLoose_19 : decode cX11_isLoose 19 = .ok (.ireturn, 1) := by decide +kernel
theorem dX11_putIn_0 : decode cX11_putIn 0 = .ok (.aload_n 1, 1) := by decide +kernel
theorem dX11_putIn_1 : decode cX11_putIn 1 = .ok (.getfield 187, 3) := by decide +kernel
theorem dX11_putIn_4 : decode cX11_putIn 4 = .ok (.aload_n 0, 1) := by decide +kernel
theorem dX11_putIn_5 : decode cX11_putIn 5 = .ok (.iload_n 2, 1) := by decide +kernel
theorem dX11_putIn_6 : decode cX11_putIn 6 = .ok (.invokevirtual 398, 3) := by decide +kernel
theorem dX11_putIn_9 : decode cX11_putIn 9 = .ok (.aload_n 0, 1) := by decide +kernel
theorem dX11_putIn_10 : decode cX11_putIn 10 = .ok (.aload_n 1, 1) := by decide +kernel
theorem dX11_putIn_11 : decode cX11_putIn 11 = .ok (.putfield 181, 3) := by decide +kernel
theorem dX11_putIn_14 : decode cX11_putIn 14 = .ok (.return_, 1) := by decide +kernel
theorem dX11_putInAtSpot_0 : decode cX11_putInAtSpot 0 = .ok (.aload_n 1, 1) := by decide +kernel
theorem dX11_putInAtSpot_1 : decode cX11_putInAtSpot 1 = .ok (.aload_n 0, 1) := by decide +kernel
theorem dX11_putInAtSpot_2 : decode cX11_putInAtSpot 2 = .ok (.getfield 26, 3) := by decide +kernel
theorem dX11_putInAtSpot_5 : decode cX11_putInAtSpot 5 = .ok (.iload_n 2, 1) := by decide +kernel
theorem dX11_putInAtSpot_6 : decode cX11_putInAtSpot 6 = .ok (.bipush 16, 2) := by decide +kernel
theorem dX11_putInAtSpot_8 : decode cX11_putInAtSpot 8 = .ok (.idiv, 1) := by decide +kernel
theorem dX11_putInAtSpot_9 : decode cX11_putInAtSpot 9 = .ok (.invokevirtual 124, 3) := by decide +kernel
theorem dX11_putInAtSpot_12 : decode cX11_putInAtSpot 12 = .ok (.checkcast 139, 3) := by decide +kernel
theorem dX11_putInAtSpot_15 : decode cX11_putInAtSpot 15 = .ok (.iload_n 2, 1) := by decide +kernel
theorem dX11_putInAtSpot_16 : decode cX11_putInAtSpot 16 = .ok (.bipush 16, 2) := by decide +kernel
theorem dX11_putInAtSpot_18 : decode cX11_putInAtSpot 18 = .ok (.irem, 1) := by decide +kernel
theorem dX11_putInAtSpot_19 : decode cX11_putInAtSpot 19 = .ok (.invokestatic 177, 3) := by decide +kernel
theorem dX11_putInAtSpot_22 : decode cX11_putInAtSpot 22 = .ok (.return_, 1) := by decide +kernel
theorem dX11_takeOut_0 : decode cX11_takeOut 0 = .ok (.aload_n 0, 1) := by decide +kernel
theorem dX11_takeOut_1 : decode cX11_takeOut 1 = .ok (.getfield 181, 3) := by decide +kernel
theorem dX11_takeOut_4 : decode cX11_takeOut 4 = .ok (.getfield 187, 3) := by decide +kernel
theorem dX11_takeOut_7 : decode cX11_takeOut 7 = .ok (.aload_n 0, 1) := by decide +kernel
theorem dX11_takeOut_8 : decode cX11_takeOut 8 = .ok (.invokevirtual 401, 3) := by decide +kernel
theorem dX11_takeOut_11 : decode cX11_takeOut 11 = .ok (.aload_n 0, 1) := by decide +kernel
theorem dX11_takeOut_12 : decode cX11_takeOut 12 = .ok (.aconst_null, 1) := by decide +kernel
theorem dX11_takeOut_13 : decode cX11_takeOut 13 = .ok (.putfield 181, 3) := by decide +kernel
theorem dX11_takeOut_16 : decode cX11_takeOut 16 = .ok (.return_, 1) := by decide +kernel
theorem dX11_addedCost_0 : decode cX11_addedCost 0 = .ok (.aload_n 0, 1) := by decide +kernel
theorem dX11_addedCost_1 : decode cX11_addedCost 1 = .ok (.getfield 60, 3) := by decide +kernel
theorem dX11_addedCost_4 : decode cX11_addedCost 4 = .ok (.aload_n 2, 1) := by decide +kernel
theorem dX11_addedCost_5 : decode cX11_addedCost 5 = .ok (.getfield 187, 3) := by decide +kernel
theorem dX11_addedCost_8 : decode cX11_addedCost 8 = .ok (.invokevirtual 248, 3) := by decide +kernel
theorem dX11_addedCost_11 : decode cX11_addedCost 11 = .ok (.aload_n 0, 1) := by decide +kernel
theorem dX11_addedCost_12 : decode cX11_addedCost 12 = .ok (.getfield 60, 3) := by decide +kernel
theorem dX11_addedCost_15 : decode cX11_addedCost 15 = .ok (.aload_n 1, 1) := by decide +kernel
theorem dX11_addedCost_16 : decode cX11_addedCost 16 = .ok (.iload_n 3, 1) := by decide +kernel
theorem dX11_addedCost_17 : decode cX11_addedCost 17 = .ok (.invokevirtual 398, 3) := by decide +kernel
theorem dX11_addedCost_20 : decode cX11_addedCost 20 = .ok (.aload_n 0, 1) := by decide +kernel
theorem dX11_addedCost_21 : decode cX11_addedCost 21 = .ok (.getfield 60, 3) := by decide +kernel
theorem dX11_addedCost_24 : decode cX11_addedCost 24 = .ok (.aload_n 2, 1) := by decide +kernel
theorem dX11_addedCost_25 : decode cX11_addedCost 25 = .ok (.getfield 255, 3) := by decide +kernel
theorem dX11_addedCost_28 : decode cX11_addedCost 28 = .ok (.invokevirtual 258, 3) := by decide +kernel
theorem dX11_addedCost_31 : decode cX11_addedCost 31 = .ok (.ifCond .ne 6, 3) := by decide +kernel
theorem dX11_addedCost_34 : decode cX11_addedCost 34 = .ok (.ldc 171, 2) := by decide +kernel
theorem dX11_addedCost_36 : decode cX11_addedCost 36 = .ok (.ireturn, 1) := by decide +kernel
theorem dX11_addedCost_37 : decode cX11_addedCost 37 = .ok (.aload_n 0, 1) := by decide +kernel
theorem dX11_addedCost_38 : decode cX11_addedCost 38 = .ok (.getfield 37, 3) := by decide +kernel
theorem dX11_addedCost_41 : decode cX11_addedCost 41 = .ok (.aload_n 2, 1) := by decide +kernel
theorem dX11_addedCost_42 : decode cX11_addedCost 42 = .ok (.aload_n 0, 1) := by decide +kernel
theorem dX11_addedCost_43 : decode cX11_addedCost 43 = .ok (.getfield 60, 3) := by decide +kernel
theorem dX11_addedCost_46 : decode cX11_addedCost 46 = .ok (.invokevirtual 190, 3) := by decide +kernel
theorem dX11_addedCost_49 : decode cX11_addedCost 49 = .ok (.aload_n 0, 1) := by decide +kernel
theorem dX11_addedCost_50 : decode cX11_addedCost 50 = .ok (.getfield 37, 3) := by decide +kernel
theorem dX11_addedCost_53 : decode cX11_addedCost 53 = .ok (.aload_n 2, 1) := by decide +kernel
theorem dX11_addedCost_54 : decode cX11_addedCost 54 = .ok (.aload_n 2, 1) := by decide +kernel
theorem dX11_addedCost_55 : decode cX11_addedCost 55 = .ok (.getfield 187, 3) := by decide +kernel
theorem dX11_addedCost_58 : decode cX11_addedCost 58 = .ok (.invokevirtual 190, 3) := by decide +kernel
theorem dX11_addedCost_61 : decode cX11_addedCost 61 = .ok (.isub, 1) := by decide +kernel
theorem dX11_addedCost_62 : decode cX11_addedCost 62 = .ok (.ireturn, 1) := by decide +kernel
theorem dX11_weighPuttingIn_0 : decode cX11_weighPuttingIn 0 = .ok (.aload_n 1, 1) := by decide +kernel
theorem dX11_weighPuttingIn_1 : decode cX11_weighPuttingIn 1 = .ok (.invokestatic 163, 3) := by decide +kernel
theorem dX11_weighPuttingIn_4 : decode cX11_weighPuttingIn 4 = .ok (.ifCond .ne 4, 3) := by decide +kernel
theorem dX11_weighPuttingIn_7 : decode cX11_weighPuttingIn 7 = .ok (.return_, 1) := by decide +kernel
theorem dX11_weighPuttingIn_8 : decode cX11_weighPuttingIn 8 = .ok (.iconst 0, 1) := by decide +kernel
theorem dX11_weighPuttingIn_9 : decode cX11_weighPuttingIn 9 = .ok (.istore_n 2, 1) := by decide +kernel
theorem dX11_weighPuttingIn_10 : decode cX11_weighPuttingIn 10 = .ok (.iload_n 2, 1) := by decide +kernel
theorem dX11_weighPuttingIn_11 : decode cX11_weighPuttingIn 11 = .ok (.aload_n 0, 1) := by decide +kernel
theorem dX11_weighPuttingIn_12 : decode cX11_weighPuttingIn 12 = .ok (.getfield 26, 3) := by decide +kernel
theorem dX11_weighPuttingIn_15 : decode cX11_weighPuttingIn 15 = .ok (.invokevirtual 101, 3) := by decide +kernel
theorem dX11_weighPuttingIn_18 : decode cX11_weighPuttingIn 18 = .ok (.if_icmp .ge 40, 3) := by decide +kernel
theorem dX11_weighPuttingIn_21 : decode cX11_weighPuttingIn 21 = .ok (.aload_n 0, 1) := by decide +kernel
theorem dX11_weighPuttingIn_22 : decode cX11_weighPuttingIn 22 = .ok (.aload_n 1, 1) := by decide +kernel
theorem dX11_weighPuttingIn_23 : decode cX11_weighPuttingIn 23 = .ok (.aload_n 0, 1) := by decide +kernel
theorem dX11_weighPuttingIn_24 : decode cX11_weighPuttingIn 24 = .ok (.getfield 26, 3) := by decide +kernel
theorem dX11_weighPuttingIn_27 : decode cX11_weighPuttingIn 27 = .ok (.iload_n 2, 1) := by decide +kernel
theorem dX11_weighPuttingIn_28 : decode cX11_weighPuttingIn 28 = .ok (.invokevirtual 124, 3) := by decide +kernel
theorem dX11_weighPuttingIn_31 : decode cX11_weighPuttingIn 31 = .ok (.checkcast 139, 3) := by decide +kernel
theorem dX11_weighPuttingIn_34 : decode cX11_weighPuttingIn 34 = .ok (.aload_n 0, 1) := by decide +kernel
theorem dX11_weighPuttingIn_35 : decode cX11_weighPuttingIn 35 = .ok (.getfield 26, 3) := by decide +kernel
theorem dX11_weighPuttingIn_38 : decode cX11_weighPuttingIn 38 = .ok (.iload_n 2, 1) := by decide +kernel
theorem dX11_weighPuttingIn_39 : decode cX11_weighPuttingIn 39 = .ok (.invokevirtual 124, 3) := by decide +kernel
theorem dX11_weighPuttingIn_42 : decode cX11_weighPuttingIn 42 = .ok (.checkcast 139, 3) := by decide +kernel
theorem dX11_weighPuttingIn_45 : decode cX11_weighPuttingIn 45 = .ok (.getfield 187, 3) := by decide +kernel
theorem dX11_weighPuttingIn_48 : decode cX11_weighPuttingIn 48 = .ok (.iconst 0, 1) := by decide +kernel
theorem dX11_weighPuttingIn_49 : decode cX11_weighPuttingIn 49 = .ok (.invokevirtual 404, 3) := by decide +kernel
theorem dX11_weighPuttingIn_52 : decode cX11_weighPuttingIn 52 = .ok (.iinc 2 1, 3) := by decide +kernel
theorem dX11_weighPuttingIn_55 : decode cX11_weighPuttingIn 55 = .ok (.goto (-45), 3) := by decide +kernel
theorem dX11_weighPuttingIn_58 : decode cX11_weighPuttingIn 58 = .ok (.return_, 1) := by decide +kernel
theorem dX11_weighMoving_0 : decode cX11_weighMoving 0 = .ok (.aload_n 1, 1) := by decide +kernel
theorem dX11_weighMoving_1 : decode cX11_weighMoving 1 = .ok (.getfield 181, 3) := by decide +kernel
theorem dX11_weighMoving_4 : decode cX11_weighMoving 4 = .ok (.ifnonnull 4, 3) := by decide +kernel
theorem dX11_weighMoving_7 : decode cX11_weighMoving 7 = .ok (.return_, 1) := by decide +kernel
theorem dX11_weighMoving_8 : decode cX11_weighMoving 8 = .ok (.aload_n 1, 1) := by decide +kernel
theorem dX11_weighMoving_9 : decode cX11_weighMoving 9 = .ok (.getfield 181, 3) := by decide +kernel
theorem dX11_weighMoving_12 : decode cX11_weighMoving 12 = .ok (.astore_n 2, 1) := by decide +kernel
theorem dX11_weighMoving_13 : decode cX11_weighMoving 13 = .ok (.aload_n 0, 1) := by decide +kernel
theorem dX11_weighMoving_14 : decode cX11_weighMoving 14 = .ok (.getfield 64, 3) := by decide +kernel
theorem dX11_weighMoving_17 : decode cX11_weighMoving 17 = .ok (.aload_n 2, 1) := by decide +kernel
theorem dX11_weighMoving_18 : decode cX11_weighMoving 18 = .ok (.getfield 187, 3) := by decide +kernel
theorem dX11_weighMoving_21 : decode cX11_weighMoving 21 = .ok (.invokevirtual 248, 3) := by decide +kernel
theorem dX11_weighMoving_24 : decode cX11_weighMoving 24 = .ok (.aload_n 0, 1) := by decide +kernel
theorem dX11_weighMoving_25 : decode cX11_weighMoving 25 = .ok (.getfield 64, 3) := by decide +kernel
theorem dX11_weighMoving_28 : decode cX11_weighMoving 28 = .ok (.aload_n 1, 1) := by decide +kernel
theorem dX11_weighMoving_29 : decode cX11_weighMoving 29 = .ok (.invokevirtual 401, 3) := by decide +kernel
theorem dX11_weighMoving_32 : decode cX11_weighMoving 32 = .ok (.aload_n 0, 1) := by decide +kernel
theorem dX11_weighMoving_33 : decode cX11_weighMoving 33 = .ok (.getfield 37, 3) := by decide +kernel
theorem dX11_weighMoving_36 : decode cX11_weighMoving 36 = .ok (.aload_n 2, 1) := by decide +kernel
theorem dX11_weighMoving_37 : decode cX11_weighMoving 37 = .ok (.aload_n 2, 1) := by decide +kernel
theorem dX11_weighMoving_38 : decode cX11_weighMoving 38 = .ok (.getfield 187, 3) := by decide +kernel
theorem dX11_weighMoving_41 : decode cX11_weighMoving 41 = .ok (.invokevirtual 190, 3) := by decide +kernel
theorem dX11_weighMoving_44 : decode cX11_weighMoving 44 = .ok (.aload_n 0, 1) := by decide +kernel
theorem dX11_weighMoving_45 : decode cX11_weighMoving 45 = .ok (.getfield 37, 3) := by decide +kernel
theorem dX11_weighMoving_48 : decode cX11_weighMoving 48 = .ok (.aload_n 2, 1) := by decide +kernel
theorem dX11_weighMoving_49 : decode cX11_weighMoving 49 = .ok (.aload_n 0, 1) := by decide +kernel
theorem dX11_weighMoving_50 : decode cX11_weighMoving 50 = .ok (.getfield 64, 3) := by decide +kernel
theorem dX11_weighMoving_53 : decode cX11_weighMoving 53 = .ok (.invokevirtual 190, 3) := by decide +kernel
theorem dX11_weighMoving_56 : decode cX11_weighMoving 56 = .ok (.isub, 1) := by decide +kernel
theorem dX11_weighMoving_57 : decode cX11_weighMoving 57 = .ok (.istore_n 3, 1) := by decide +kernel
theorem dX11_weighMoving_58 : decode cX11_weighMoving 58 = .ok (.iconst 0, 1) := by decide +kernel
theorem dX11_weighMoving_59 : decode cX11_weighMoving 59 = .ok (.istore 4, 2) := by decide +kernel
theorem dX11_weighMoving_61 : decode cX11_weighMoving 61 = .ok (.iload 4, 2) := by decide +kernel
theorem dX11_weighMoving_63 : decode cX11_weighMoving 63 = .ok (.aload_n 0, 1) := by decide +kernel
theorem dX11_weighMoving_64 : decode cX11_weighMoving 64 = .ok (.getfield 26, 3) := by decide +kernel
theorem dX11_weighMoving_67 : decode cX11_weighMoving 67 = .ok (.invokevirtual 101, 3) := by decide +kernel
theorem dX11_weighMoving_70 : decode cX11_weighMoving 70 = .ok (.if_icmp .ge 49, 3) := by decide +kernel
theorem dX11_weighMoving_73 : decode cX11_weighMoving 73 = .ok (.aload_n 0, 1) := by decide +kernel
theorem dX11_weighMoving_74 : decode cX11_weighMoving 74 = .ok (.getfield 26, 3) := by decide +kernel
theorem dX11_weighMoving_77 : decode cX11_weighMoving 77 = .ok (.iload 4, 2) := by decide +kernel
theorem dX11_weighMoving_79 : decode cX11_weighMoving 79 = .ok (.invokevirtual 124, 3) := by decide +kernel
theorem dX11_weighMoving_82 : decode cX11_weighMoving 82 = .ok (.checkcast 139, 3) := by decide +kernel
theorem dX11_weighMoving_85 : decode cX11_weighMoving 85 = .ok (.astore 5, 2) := by decide +kernel
theorem dX11_weighMoving_87 : decode cX11_weighMoving 87 = .ok (.aload_n 0, 1) := by decide +kernel
theorem dX11_weighMoving_88 : decode cX11_weighMoving 88 = .ok (.aload_n 1, 1) := by decide +kernel
theorem dX11_weighMoving_89 : decode cX11_weighMoving 89 = .ok (.aload 5, 2) := by decide +kernel
theorem dX11_weighMoving_91 : decode cX11_weighMoving 91 = .ok (.aload 5, 2) := by decide +kernel
theorem dX11_weighMoving_93 : decode cX11_weighMoving 93 = .ok (.aload_n 2, 1) := by decide +kernel
theorem dX11_weighMoving_94 : decode cX11_weighMoving 94 = .ok (.if_acmp .ne 10, 3) := by decide +kernel
theorem dX11_weighMoving_97 : decode cX11_weighMoving 97 = .ok (.aload_n 0, 1) := by decide +kernel
theorem dX11_weighMoving_98 : decode cX11_weighMoving 98 = .ok (.getfield 64, 3) := by decide +kernel
theorem dX11_weighMoving_101 : decode cX11_weighMoving 101 = .ok (.goto 8, 3) := by decide +kernel
theorem dX11_weighMoving_104 : decode cX11_weighMoving 104 = .ok (.aload 5, 2) := by decide +kernel
theorem dX11_weighMoving_106 : decode cX11_weighMoving 106 = .ok (.getfield 187, 3) := by decide +kernel
theorem dX11_weighMoving_109 : decode cX11_weighMoving 109 = .ok (.iload_n 3, 1) := by decide +kernel
theorem dX11_weighMoving_110 : decode cX11_weighMoving 110 = .ok (.invokevirtual 404, 3) := by decide +kernel
theorem dX11_weighMoving_113 : decode cX11_weighMoving 113 = .ok (.iinc 4 1, 3) := by decide +kernel
theorem dX11_weighMoving_116 : decode cX11_weighMoving 116 = .ok (.goto (-55), 3) := by decide +kernel
theorem dX11_weighMoving_119 : decode cX11_weighMoving 119 = .ok (.return_, 1) := by decide +kernel
theorem dX11_weighPlaces_0 : decode cX11_weighPlaces 0 = .ok (.aload_n 0, 1) := by decide +kernel
theorem dX11_weighPlaces_1 : decode cX11_weighPlaces 1 = .ok (.getfield 37, 3) := by decide +kernel
theorem dX11_weighPlaces_4 : decode cX11_weighPlaces 4 = .ok (.aload_n 2, 1) := by decide +kernel
theorem dX11_weighPlaces_5 : decode cX11_weighPlaces 5 = .ok (.aload_n 3, 1) := by decide +kernel
theorem dX11_weighPlaces_6 : decode cX11_weighPlaces 6 = .ok (.invokevirtual 190, 3) := by decide +kernel
theorem dX11_weighPlaces_9 : decode cX11_weighPlaces 9 = .ok (.istore 5, 2) := by decide +kernel
theorem dX11_weighPlaces_11 : decode cX11_weighPlaces 11 = .ok (.iconst 0, 1) := by decide +kernel
theorem dX11_weighPlaces_12 : decode cX11_weighPlaces 12 = .ok (.istore 6, 2) := by decide +kernel
theorem dX11_weighPlaces_14 : decode cX11_weighPlaces 14 = .ok (.iload 6, 2) := by decide +kernel
theorem dX11_weighPlaces_16 : decode cX11_weighPlaces 16 = .ok (.aload_n 3, 1) := by decide +kernel
theorem dX11_weighPlaces_17 : decode cX11_weighPlaces 17 = .ok (.getfield 246, 3) := by decide +kernel
theorem dX11_weighPlaces_20 : decode cX11_weighPlaces 20 = .ok (.if_icmp .gt 81, 3) := by decide +kernel
theorem dX11_weighPlaces_23 : decode cX11_weighPlaces 23 = .ok (.aload_n 0, 1) := by decide +kernel
theorem dX11_weighPlaces_24 : decode cX11_weighPlaces 24 = .ok (.getfield 60, 3) := by decide +kernel
theorem dX11_weighPlaces_27 : decode cX11_weighPlaces 27 = .ok (.aload_n 3, 1) := by decide +kernel
theorem dX11_weighPlaces_28 : decode cX11_weighPlaces 28 = .ok (.invokevirtual 248, 3) := by decide +kernel
theorem dX11_weighPlaces_31 : decode cX11_weighPlaces 31 = .ok (.aload_n 0, 1) := by decide +kernel
theorem dX11_weighPlaces_32 : decode cX11_weighPlaces 32 = .ok (.getfield 60, 3) := by decide +kernel
theorem dX11_weighPlaces_35 : decode cX11_weighPlaces 35 = .ok (.aload_n 1, 1) := by decide +kernel
theorem dX11_weighPlaces_36 : decode cX11_weighPlaces 36 = .ok (.iload 6, 2) := by decide +kernel
theorem dX11_weighPlaces_38 : decode cX11_weighPlaces 38 = .ok (.invokevirtual 398, 3) := by decide +kernel
theorem dX11_weighPlaces_41 : decode cX11_weighPlaces 41 = .ok (.aload_n 0, 1) := by decide +kernel
theorem dX11_weighPlaces_42 : decode cX11_weighPlaces 42 = .ok (.getfield 60, 3) := by decide +kernel
theorem dX11_weighPlaces_45 : decode cX11_weighPlaces 45 = .ok (.aload_n 2, 1) := by decide +kernel
theorem dX11_weighPlaces_46 : decode cX11_weighPlaces 46 = .ok (.getfield 255, 3) := by decide +kernel
theorem dX11_weighPlaces_49 : decode cX11_weighPlaces 49 = .ok (.invokevirtual 258, 3) := by decide +kernel
theorem dX11_weighPlaces_52 : decode cX11_weighPlaces 52 = .ok (.ifCond .eq 43, 3) := by decide +kernel
theorem dX11_weighPlaces_55 : decode cX11_weighPlaces 55 = .ok (.aload_n 0, 1) := by decide +kernel
theorem dX11_weighPlaces_56 : decode cX11_weighPlaces 56 = .ok (.getfield 37, 3) := by decide +kernel
theorem dX11_weighPlaces_59 : decode cX11_weighPlaces 59 = .ok (.aload_n 2, 1) := by decide +kernel
theorem dX11_weighPlaces_60 : decode cX11_weighPlaces 60 = .ok (.aload_n 0, 1) := by decide +kernel
theorem dX11_weighPlaces_61 : decode cX11_weighPlaces 61 = .ok (.getfield 60, 3) := by decide +kernel
theorem dX11_weighPlaces_64 : decode cX11_weighPlaces 64 = .ok (.invokevirtual 190, 3) := by decide +kernel
theorem dX11_weighPlaces_67 : decode cX11_weighPlaces 67 = .ok (.iload 5, 2) := by decide +kernel
theorem dX11_weighPlaces_69 : decode cX11_weighPlaces 69 = .ok (.isub, 1) := by decide +kernel
theorem dX11_weighPlaces_70 : decode cX11_weighPlaces 70 = .ok (.iload 4, 2) := by decide +kernel
theorem dX11_weighPlaces_72 : decode cX11_weighPlaces 72 = .ok (.isub, 1) := by decide +kernel
theorem dX11_weighPlaces_73 : decode cX11_weighPlaces 73 = .ok (.istore 7, 2) := by decide +kernel
theorem dX11_weighPlaces_75 : decode cX11_weighPlaces 75 = .ok (.aload_n 0, 1) := by decide +kernel
theorem dX11_weighPlaces_76 : decode cX11_weighPlaces 76 = .ok (.getfield 53, 3) := by decide +kernel
theorem dX11_weighPlaces_79 : decode cX11_weighPlaces 79 = .ok (.iload 7, 2) := by decide +kernel
theorem dX11_weighPlaces_81 : decode cX11_weighPlaces 81 = .ok (.aload_n 1, 1) := by decide +kernel
theorem dX11_weighPlaces_82 : decode cX11_weighPlaces 82 = .ok (.bipush 16, 2) := by decide +kernel
theorem dX11_weighPlaces_84 : decode cX11_weighPlaces 84 = .ok (.aload_n 2, 1) := by decide +kernel
theorem dX11_weighPlaces_85 : decode cX11_weighPlaces 85 = .ok (.getfield 361, 3) := by decide +kernel
theorem dX11_weighPlaces_88 : decode cX11_weighPlaces 88 = .ok (.imul, 1) := by decide +kernel
theorem dX11_weighPlaces_89 : decode cX11_weighPlaces 89 = .ok (.iload 6, 2) := by decide +kernel
theorem dX11_weighPlaces_91 : decode cX11_weighPlaces 91 = .ok (.iadd, 1) := by decide +kernel
theorem dX11_weighPlaces_92 : decode cX11_weighPlaces 92 = .ok (.invokevirtual 408, 3) := by decide +kernel
theorem dX11_weighPlaces_95 : decode cX11_weighPlaces 95 = .ok (.iinc 6 1, 3) := by decide +kernel
theorem dX11_weighPlaces_98 : decode cX11_weighPlaces 98 = .ok (.goto (-84), 3) := by decide +kernel
theorem dX11_weighPlaces_101 : decode cX11_weighPlaces 101 = .ok (.return_, 1) := by decide +kernel
theorem dX11_driveVans_0 : decode cX11_driveVans 0 = .ok (.aload_n 0, 1) := by decide +kernel
theorem dX11_driveVans_1 : decode cX11_driveVans 1 = .ok (.getfield 46, 3) := by decide +kernel
theorem dX11_driveVans_4 : decode cX11_driveVans 4 = .ok (.invokevirtual 412, 3) := by decide +kernel
theorem dX11_driveVans_7 : decode cX11_driveVans 7 = .ok (.iconst 0, 1) := by decide +kernel
theorem dX11_driveVans_8 : decode cX11_driveVans 8 = .ok (.istore_n 1, 1) := by decide +kernel
theorem dX11_driveVans_9 : decode cX11_driveVans 9 = .ok (.iload_n 1, 1) := by decide +kernel
theorem dX11_driveVans_10 : decode cX11_driveVans 10 = .ok (.aload_n 0, 1) := by decide +kernel
theorem dX11_driveVans_11 : decode cX11_driveVans 11 = .ok (.getfield 26, 3) := by decide +kernel
theorem dX11_driveVans_14 : decode cX11_driveVans 14 = .ok (.invokevirtual 101, 3) := by decide +kernel
theorem dX11_driveVans_17 : decode cX11_driveVans 17 = .ok (.if_icmp .ge 27, 3) := by decide +kernel
theorem dX11_driveVans_20 : decode cX11_driveVans 20 = .ok (.aload_n 0, 1) := by decide +kernel
theorem dX11_driveVans_21 : decode cX11_driveVans 21 = .ok (.getfield 46, 3) := by decide +kernel
theorem dX11_driveVans_24 : decode cX11_driveVans 24 = .ok (.aload_n 0, 1) := by decide +kernel
theorem dX11_driveVans_25 : decode cX11_driveVans 25 = .ok (.getfield 26, 3) := by decide +kernel
theorem dX11_driveVans_28 : decode cX11_driveVans 28 = .ok (.iload_n 1, 1) := by decide +kernel
theorem dX11_driveVans_29 : decode cX11_driveVans 29 = .ok (.invokevirtual 124, 3) := by decide +kernel
theorem dX11_driveVans_32 : decode cX11_driveVans 32 = .ok (.checkcast 139, 3) := by decide +kernel
theorem dX11_driveVans_35 : decode cX11_driveVans 35 = .ok (.invokevirtual 415, 3) := by decide +kernel
theorem dX11_driveVans_38 : decode cX11_driveVans 38 = .ok (.iinc 1 1, 3) := by decide +kernel
theorem dX11_driveVans_41 : decode cX11_driveVans 41 = .ok (.goto (-32), 3) := by decide +kernel
theorem dX11_driveVans_44 : decode cX11_driveVans 44 = .ok (.iconst 0, 1) := by decide +kernel
theorem dX11_driveVans_45 : decode cX11_driveVans 45 = .ok (.istore_n 1, 1) := by decide +kernel
theorem dX11_driveVans_46 : decode cX11_driveVans 46 = .ok (.iload_n 1, 1) := by decide +kernel
theorem dX11_driveVans_47 : decode cX11_driveVans 47 = .ok (.aload_n 0, 1) := by decide +kernel
theorem dX11_driveVans_48 : decode cX11_driveVans 48 = .ok (.getfield 29, 3) := by decide +kernel
theorem dX11_driveVans_51 : decode cX11_driveVans 51 = .ok (.invokevirtual 101, 3) := by decide +kernel
theorem dX11_driveVans_54 : decode cX11_driveVans 54 = .ok (.if_icmp .ge 27, 3) := by decide +kernel
theorem dX11_driveVans_57 : decode cX11_driveVans 57 = .ok (.aload_n 0, 1) := by decide +kernel
theorem dX11_driveVans_58 : decode cX11_driveVans 58 = .ok (.getfield 46, 3) := by decide +kernel
theorem dX11_driveVans_61 : decode cX11_driveVans 61 = .ok (.aload_n 0, 1) := by decide +kernel
theorem dX11_driveVans_62 : decode cX11_driveVans 62 = .ok (.getfield 29, 3) := by decide +kernel
theorem dX11_driveVans_65 : decode cX11_driveVans 65 = .ok (.iload_n 1, 1) := by decide +kernel
theorem dX11_driveVans_66 : decode cX11_driveVans 66 = .ok (.invokevirtual 124, 3) := by decide +kernel
theorem dX11_driveVans_69 : decode cX11_driveVans 69 = .ok (.checkcast 144, 3) := by decide +kernel
theorem dX11_driveVans_72 : decode cX11_driveVans 72 = .ok (.invokevirtual 419, 3) := by decide +kernel
theorem dX11_driveVans_75 : decode cX11_driveVans 75 = .ok (.iinc 1 1, 3) := by decide +kernel
theorem dX11_driveVans_78 : decode cX11_driveVans 78 = .ok (.goto (-32), 3) := by decide +kernel
theorem dX11_driveVans_81 : decode cX11_driveVans 81 = .ok (.return_, 1) := by decide +kernel
theorem dX11_keepAll_0 : decode cX11_keepAll 0 = .ok (.iconst 0, 1) := by decide +kernel
theorem dX11_keepAll_1 : decode cX11_keepAll 1 = .ok (.istore_n 1, 1) := by decide +kernel
theorem dX11_keepAll_2 : decode cX11_keepAll 2 = .ok (.iload_n 1, 1) := by decide +kernel
theorem dX11_keepAll_3 : decode cX11_keepAll 3 = .ok (.aload_n 0, 1) := by decide +kernel
theorem dX11_keepAll_4 : decode cX11_keepAll 4 = .ok (.getfield 29, 3) := by decide +kernel
theorem dX11_keepAll_7 : decode cX11_keepAll 7 = .ok (.invokevirtual 101, 3) := by decide +kernel
theorem dX11_keepAll_10 : decode cX11_keepAll 10 = .ok (.if_icmp .ge 23, 3) := by decide +kernel
theorem dX11_keepAll_13 : decode cX11_keepAll 13 = .ok (.aload_n 0, 1) := by decide +kernel
theorem dX11_keepAll_14 : decode cX11_keepAll 14 = .ok (.getfield 29, 3) := by decide +kernel
theorem dX11_keepAll_17 : decode cX11_keepAll 17 = .ok (.iload_n 1, 1) := by decide +kernel
theorem dX11_keepAll_18 : decode cX11_keepAll 18 = .ok (.invokevirtual 124, 3) := by decide +kernel
theorem dX11_keepAll_21 : decode cX11_keepAll 21 = .ok (.checkcast 144, 3) := by decide +kernel
theorem dX11_keepAll_24 : decode cX11_keepAll 24 = .ok (.invokevirtual 422, 3) := by decide +kernel
theorem dX11_keepAll_27 : decode cX11_keepAll 27 = .ok (.iinc 1 1, 3) := by decide +kernel
theorem dX11_keepAll_30 : decode cX11_keepAll 30 = .ok (.goto (-28), 3) := by decide +kernel
theorem dX11_keepAll_33 : decode cX11_keepAll 33 = .ok (.iconst 0, 1) := by decide +kernel
theorem dX11_keepAll_34 : decode cX11_keepAll 34 = .ok (.istore_n 1, 1) := by decide +kernel
theorem dX11_keepAll_35 : decode cX11_keepAll 35 = .ok (.iload_n 1, 1) := by decide +kernel
theorem dX11_keepAll_36 : decode cX11_keepAll 36 = .ok (.aload_n 0, 1) := by decide +kernel
theorem dX11_keepAll_37 : decode cX11_keepAll 37 = .ok (.getfield 23, 3) := by decide +kernel
theorem dX11_keepAll_40 : decode cX11_keepAll 40 = .ok (.invokevirtual 101, 3) := by decide +kernel
theorem dX11_keepAll_43 : decode cX11_keepAll 43 = .ok (.if_icmp .ge 23, 3) := by decide +kernel
theorem dX11_keepAll_46 : decode cX11_keepAll 46 = .ok (.aload_n 0, 1) := by decide +kernel
theorem dX11_keepAll_47 : decode cX11_keepAll 47 = .ok (.getfield 23, 3) := by decide +kernel
theorem dX11_keepAll_50 : decode cX11_keepAll 50 = .ok (.iload_n 1, 1) := by decide +kernel
theorem dX11_keepAll_51 : decode cX11_keepAll 51 = .ok (.invokevirtual 124, 3) := by decide +kernel
theorem dX11_keepAll_54 : decode cX11_keepAll 54 = .ok (.checkcast 134, 3) := by decide +kernel
theorem dX11_keepAll_57 : decode cX11_keepAll 57 = .ok (.invokevirtual 425, 3) := by decide +kernel
theorem dX11_keepAll_60 : decode cX11_keepAll 60 = .ok (.iinc 1 1, 3) := by decide +kernel
theorem dX11_keepAll_63 : decode cX11_keepAll 63 = .ok (.goto (-28), 3) := by decide +kernel
theorem dX11_keepAll_66 : decode cX11_keepAll 66 = .ok (.return_, 1) := by decide +kernel
theorem dX11_giveBackAll_0 : decode cX11_giveBackAll 0 = .ok (.iconst 0, 1) := by decide +kernel
theorem dX11_giveBackAll_1 : decode cX11_giveBackAll 1 = .ok (.istore_n 1, 1) := by decide +kernel
theorem dX11_giveBackAll_2 : decode cX11_giveBackAll 2 = .ok (.iload_n 1, 1) := by decide +kernel
theorem dX11_giveBackAll_3 : decode cX11_giveBackAll 3 = .ok (.aload_n 0, 1) := by decide +kernel
theorem dX11_giveBackAll_4 : decode cX11_giveBackAll 4 = .ok (.getfield 29, 3) := by decide +kernel
theorem dX11_giveBackAll_7 : decode cX11_giveBackAll 7 = .ok (.invokevirtual 101, 3) := by decide +kernel
theorem dX11_giveBackAll_10 : decode cX11_giveBackAll 10 = .ok (.if_icmp .ge 23, 3) := by decide +kernel
theorem dX11_giveBackAll_13 : decode cX11_giveBackAll 13 = .ok (.aload_n 0, 1) := by decide +kernel
theorem dX11_giveBackAll_14 : decode cX11_giveBackAll 14 = .ok (.getfield 29, 3) := by decide +kernel
theorem dX11_giveBackAll_17 : decode cX11_giveBackAll 17 = .ok (.iload_n 1, 1) := by decide +kernel
theorem dX11_giveBackAll_18 : decode cX11_giveBackAll 18 = .ok (.invokevirtual 124, 3) := by decide +kernel
theorem dX11_giveBackAll_21 : decode cX11_giveBackAll 21 = .ok (.checkcast 144, 3) := by decide +kernel
theorem dX11_giveBackAll_24 : decode cX11_giveBackAll 24 = .ok (.invokevirtual 426, 3) := by decide +kernel
theorem dX11_giveBackAll_27 : decode cX11_giveBackAll 27 = .ok (.iinc 1 1, 3) := by decide +kernel
theorem dX11_giveBackAll_30 : decode cX11_giveBackAll 30 = .ok (.goto (-28), 3) := by decide +kernel
theorem dX11_giveBackAll_33 : decode cX11_giveBackAll 33 = .ok (.iconst 0, 1) := by decide +kernel
theorem dX11_giveBackAll_34 : decode cX11_giveBackAll 34 = .ok (.istore_n 1, 1) := by decide +kernel
theorem dX11_giveBackAll_35 : decode cX11_giveBackAll 35 = .ok (.iload_n 1, 1) := by decide +kernel
theorem dX11_giveBackAll_36 : decode cX11_giveBackAll 36 = .ok (.aload_n 0, 1) := by decide +kernel
theorem dX11_giveBackAll_37 : decode cX11_giveBackAll 37 = .ok (.getfield 23, 3) := by decide +kernel
theorem dX11_giveBackAll_40 : decode cX11_giveBackAll 40 = .ok (.invokevirtual 101, 3) := by decide +kernel
theorem dX11_giveBackAll_43 : decode cX11_giveBackAll 43 = .ok (.if_icmp .ge 23, 3) := by decide +kernel
theorem dX11_giveBackAll_46 : decode cX11_giveBackAll 46 = .ok (.aload_n 0, 1) := by decide +kernel
theorem dX11_giveBackAll_47 : decode cX11_giveBackAll 47 = .ok (.getfield 23, 3) := by decide +kernel
theorem dX11_giveBackAll_50 : decode cX11_giveBackAll 50 = .ok (.iload_n 1, 1) := by decide +kernel
theorem dX11_giveBackAll_51 : decode cX11_giveBackAll 51 = .ok (.invokevirtual 124, 3) := by decide +kernel
theorem dX11_giveBackAll_54 : decode cX11_giveBackAll 54 = .ok (.checkcast 134, 3) := by decide +kernel
theorem dX11_giveBackAll_57 : decode cX11_giveBackAll 57 = .ok (.invokevirtual 429, 3) := by decide +kernel
theorem dX11_giveBackAll_60 : decode cX11_giveBackAll 60 = .ok (.iinc 1 1, 3) := by decide +kernel
theorem dX11_giveBackAll_63 : decode cX11_giveBackAll 63 = .ok (.goto (-28), 3) := by decide +kernel
theorem dX11_giveBackAll_66 : decode cX11_giveBackAll 66 = .ok (.return_, 1) := by decide +kernel
theorem dX11_mixed_0 : decode cX11_mixed 0 = .ok (.lload_n 0, 1) := by decide +kernel
theorem dX11_mixed_1 : decode cX11_mixed 1 = .ok (.ldc2_w 430, 3) := by decide +kernel
theorem dX11_mixed_4 : decode cX11_mixed 4 = .ok (.lmul, 1) := by decide +kernel
theorem dX11_mixed_5 : decode cX11_mixed 5 = .ok (.lload_n 2, 1) := by decide +kernel
theorem dX11_mixed_6 : decode cX11_mixed 6 = .ok (.ladd, 1) := by decide +kernel
theorem dX11_mixed_7 : decode cX11_mixed 7 = .ok (.lreturn, 1) := by decide +kernel
theorem dX11_withHomes_0 : decode cX11_withHomes 0 = .ok (.lload_n 1, 1) := by decide +kernel
theorem dX11_withHomes_1 : decode cX11_withHomes 1 = .ok (.lstore_n 3, 1) := by decide +kernel
theorem dX11_withHomes_2 : decode cX11_withHomes 2 = .ok (.iconst 0, 1) := by decide +kernel
theorem dX11_withHomes_3 : decode cX11_withHomes 3 = .ok (.istore 5, 2) := by decide +kernel
theorem dX11_withHomes_5 : decode cX11_withHomes 5 = .ok (.iload 5, 2) := by decide +kernel
theorem dX11_withHomes_7 : decode cX11_withHomes 7 = .ok (.aload_n 0, 1) := by decide +kernel
theorem dX11_withHomes_8 : decode cX11_withHomes 8 = .ok (.getfield 19, 3) := by decide +kernel
theorem dX11_withHomes_11 : decode cX11_withHomes 11 = .ok (.invokevirtual 101, 3) := by decide +kernel
theorem dX11_withHomes_14 : decode cX11_withHomes 14 = .ok (.if_icmp .ge 86, 3) := by decide +kernel
theorem dX11_withHomes_17 : decode cX11_withHomes 17 = .ok (.iconst 0, 1) := by decide +kernel
theorem dX11_withHomes_18 : decode cX11_withHomes 18 = .ok (.istore 6, 2) := by decide +kernel
theorem dX11_withHomes_20 : decode cX11_withHomes 20 = .ok (.iload 6, 2) := by decide +kernel
theorem dX11_withHomes_22 : decode cX11_withHomes 22 = .ok (.bipush 6, 2) := by decide +kernel
theorem dX11_withHomes_24 : decode cX11_withHomes 24 = .ok (.if_icmp .ge 23, 3) := by decide +kernel
theorem dX11_withHomes_27 : decode cX11_withHomes 27 = .ok (.lload_n 3, 1) := by decide +kernel
theorem dX11_withHomes_28 : decode cX11_withHomes 28 = .ok (.aload_n 0, 1) := by decide +kernel
theorem dX11_withHomes_29 : decode cX11_withHomes 29 = .ok (.iload 5, 2) := by decide +kernel
theorem dX11_withHomes_31 : decode cX11_withHomes 31 = .ok (.iload 6, 2) := by decide +kernel
theorem dX11_withHomes_33 : decode cX11_withHomes 33 = .ok (.invokevirtual 149, 3) := by decide +kernel
theorem dX11_withHomes_36 : decode cX11_withHomes 36 = .ok (.i2l, 1) := by decide +kernel
theorem dX11_withHomes_37 : decode cX11_withHomes 37 = .ok (.invokestatic 301, 3) := by decide +kernel
theorem dX11_withHomes_40 : decode cX11_withHomes 40 = .ok (.lstore_n 3, 1) := by decide +kernel
theorem dX11_withHomes_41 : decode cX11_withHomes 41 = .ok (.iinc 6 1, 3) := by decide +kernel
theorem dX11_withHomes_44 : decode cX11_withHomes 44 = .ok (.goto (-24), 3) := by decide +kernel
theorem dX11_withHomes_47 : decode cX11_withHomes 47 = .ok (.aload_n 0, 1) := by decide +kernel
theorem dX11_withHomes_48 : decode cX11_withHomes 48 = .ok (.getfield 19, 3) := by decide +kernel
theorem dX11_withHomes_51 : decode cX11_withHomes 51 = .ok (.iload 5, 2) := by decide +kernel
theorem dX11_withHomes_53 : decode cX11_withHomes 53 = .ok (.invokevirtual 124, 3) := by decide +kernel
theorem dX11_withHomes_56 : decode cX11_withHomes 56 = .ok (.checkcast 108, 3) := by decide +kernel
theorem dX11_withHomes_59 : decode cX11_withHomes 59 = .ok (.astore 6, 2) := by decide +kernel
theorem dX11_withHomes_61 : decode cX11_withHomes 61 = .ok (.iconst 0, 1) := by decide +kernel
theorem dX11_withHomes_62 : decode cX11_withHomes 62 = .ok (.istore 7, 2) := by decide +kernel
theorem dX11_withHomes_64 : decode cX11_withHomes 64 = .ok (.iload 7, 2) := by decide +kernel
theorem dX11_withHomes_66 : decode cX11_withHomes 66 = .ok (.aload 6, 2) := by decide +kernel
theorem dX11_withHomes_68 : decode cX11_withHomes 68 = .ok (.getfield 128, 3) := by decide +kernel
theorem dX11_withHomes_71 : decode cX11_withHomes 71 = .ok (.if_icmp .ge 23, 3) := by decide +kernel
theorem dX11_withHomes_74 : decode cX11_withHomes 74 = .ok (.lload_n 3, 1) := by decide +kernel
theorem dX11_withHomes_75 : decode cX11_withHomes 75 = .ok (.aload 6, 2) := by decide +kernel
theorem dX11_withHomes_77 : decode cX11_withHomes 77 = .ok (.getfield 131, 3) := by decide +kernel
theorem dX11_withHomes_80 : decode cX11_withHomes 80 = .ok (.iload 7, 2) := by decide +kernel
theorem dX11_withHomes_82 : decode cX11_withHomes 82 = .ok (.iaload, 1) := by decide +kernel
theorem dX11_withHomes_83 : decode cX11_withHomes 83 = .ok (.i2l, 1) := by decide +kernel
theorem dX11_withHomes_84 : decode cX11_withHomes 84 = .ok (.invokestatic 301, 3) := by decide +kernel
theorem dX11_withHomes_87 : decode cX11_withHomes 87 = .ok (.lstore_n 3, 1) := by decide +kernel
theorem dX11_withHomes_88 : decode cX11_withHomes 88 = .ok (.iinc 7 1, 3) := by decide +kernel
theorem dX11_withHomes_91 : decode cX11_withHomes 91 = .ok (.goto (-27), 3) := by decide +kernel
theorem dX11_withHomes_94 : decode cX11_withHomes 94 = .ok (.iinc 5 1, 3) := by decide +kernel
theorem dX11_withHomes_97 : decode cX11_withHomes 97 = .ok (.goto (-92), 3) := by decide +kernel
theorem dX11_withHomes_100 : decode cX11_withHomes 100 = .ok (.lload_n 3, 1) := by decide +kernel
theorem dX11_withHomes_101 : decode cX11_withHomes 101 = .ok (.lreturn, 1) := by decide +kernel
theorem dX11_withLockers_0 : decode cX11_withLockers 0 = .ok (.lload_n 1, 1) := by decide +kernel
theorem dX11_withLockers_1 : decode cX11_withLockers 1 = .ok (.lstore_n 3, 1) := by decide +kernel
theorem dX11_withLockers_2 : decode cX11_withLockers 2 = .ok (.iconst 0, 1) := by decide +kernel
theorem dX11_withLockers_3 : decode cX11_withLockers 3 = .ok (.istore 5, 2) := by decide +kernel
theorem dX11_withLockers_5 : decode cX11_withLockers 5 = .ok (.iload 5, 2) := by decide +kernel
theorem dX11_withLockers_7 : decode cX11_withLockers 7 = .ok (.aload_n 0, 1) := by decide +kernel
theorem dX11_withLockers_8 : decode cX11_withLockers 8 = .ok (.getfield 23, 3) := by decide +kernel
theorem dX11_withLockers_11 : decode cX11_withLockers 11 = .ok (.invokevirtual 101, 3) := by decide +kernel
theorem dX11_withLockers_14 : decode cX11_withLockers 14 = .ok (.if_icmp .ge 39, 3) := by decide +kernel
theorem dX11_withLockers_17 : decode cX11_withLockers 17 = .ok (.iconst 0, 1) := by decide +kernel
theorem dX11_withLockers_18 : decode cX11_withLockers 18 = .ok (.istore 6, 2) := by decide +kernel
theorem dX11_withLockers_20 : decode cX11_withLockers 20 = .ok (.iload 6, 2) := by decide +kernel
theorem dX11_withLockers_22 : decode cX11_withLockers 22 = .ok (.bipush 6, 2) := by decide +kernel
theorem dX11_withLockers_24 : decode cX11_withLockers 24 = .ok (.if_icmp .ge 23, 3) := by decide +kernel
theorem dX11_withLockers_27 : decode cX11_withLockers 27 = .ok (.lload_n 3, 1) := by decide +kernel
theorem dX11_withLockers_28 : decode cX11_withLockers 28 = .ok (.aload_n 0, 1) := by decide +kernel
theorem dX11_withLockers_29 : decode cX11_withLockers 29 = .ok (.iload 5, 2) := by decide +kernel
theorem dX11_withLockers_31 : decode cX11_withLockers 31 = .ok (.iload 6, 2) := by decide +kernel
theorem dX11_withLockers_33 : decode cX11_withLockers 33 = .ok (.invokevirtual 153, 3) := by decide +kernel
theorem dX11_withLockers_36 : decode cX11_withLockers 36 = .ok (.i2l, 1) := by decide +kernel
theorem dX11_withLockers_37 : decode cX11_withLockers 37 = .ok (.invokestatic 301, 3) := by decide +kernel
theorem dX11_withLockers_40 : decode cX11_withLockers 40 = .ok (.lstore_n 3, 1) := by decide +kernel
theorem dX11_withLockers_41 : decode cX11_withLockers 41 = .ok (.iinc 6 1, 3) := by decide +kernel
theorem dX11_withLockers_44 : decode cX11_withLockers 44 = .ok (.goto (-24), 3) := by decide +kernel
theorem dX11_withLockers_47 : decode cX11_withLockers 47 = .ok (.iinc 5 1, 3) := by decide +kernel
theorem dX11_withLockers_50 : decode cX11_withLockers 50 = .ok (.goto (-45), 3) := by decide +kernel
theorem dX11_withLockers_53 : decode cX11_withLockers 53 = .ok (.lload_n 3, 1) := by decide +kernel
theorem dX11_withLockers_54 : decode cX11_withLockers 54 = .ok (.lreturn, 1) := by decide +kernel
theorem dX11_withParcels_0 : decode cX11_withParcels 0 = .ok (.lload_n 1, 1) := by decide +kernel
theorem dX11_withParcels_1 : decode cX11_withParcels 1 = .ok (.lstore_n 3, 1) := by decide +kernel
theorem dX11_withParcels_2 : decode cX11_withParcels 2 = .ok (.iconst 0, 1) := by decide +kernel
theorem dX11_withParcels_3 : decode cX11_withParcels 3 = .ok (.istore 5, 2) := by decide +kernel
theorem dX11_withParcels_5 : decode cX11_withParcels 5 = .ok (.iload 5, 2) := by decide +kernel
theorem dX11_withParcels_7 : decode cX11_withParcels 7 = .ok (.aload_n 0, 1) := by decide +kernel
theorem dX11_withParcels_8 : decode cX11_withParcels 8 = .ok (.getfield 29, 3) := by decide +kernel
theorem dX11_withParcels_11 : decode cX11_withParcels 11 = .ok (.invokevirtual 101, 3) := by decide +kernel
theorem dX11_withParcels_14 : decode cX11_withParcels 14 = .ok (.if_icmp .ge 49, 3) := by decide +kernel
theorem dX11_withParcels_17 : decode cX11_withParcels 17 = .ok (.iconst 0, 1) := by decide +kernel
theorem dX11_withParcels_18 : decode cX11_withParcels 18 = .ok (.istore 6, 2) := by decide +kernel
theorem dX11_withParcels_20 : decode cX11_withParcels 20 = .ok (.iload 6, 2) := by decide +kernel
theorem dX11_withParcels_22 : decode cX11_withParcels 22 = .ok (.bipush 9, 2) := by decide +kernel
theorem dX11_withParcels_24 : decode cX11_withParcels 24 = .ok (.if_icmp .ge 33, 3) := by decide +kernel
theorem dX11_withParcels_27 : decode cX11_withParcels 27 = .ok (.lload_n 3, 1) := by decide +kernel
theorem dX11_withParcels_28 : decode cX11_withParcels 28 = .ok (.aload_n 0, 1) := by decide +kernel
theorem dX11_withParcels_29 : decode cX11_withParcels 29 = .ok (.aload_n 0, 1) := by decide +kernel
theorem dX11_withParcels_30 : decode cX11_withParcels 30 = .ok (.getfield 29, 3) := by decide +kernel
theorem dX11_withParcels_33 : decode cX11_withParcels 33 = .ok (.iload 5, 2) := by decide +kernel
theorem dX11_withParcels_35 : decode cX11_withParcels 35 = .ok (.invokevirtual 124, 3) := by decide +kernel
theorem dX11_withParcels_38 : decode cX11_withParcels 38 = .ok (.checkcast 144, 3) := by decide +kernel
theorem dX11_withParcels_41 : decode cX11_withParcels 41 = .ok (.iload 6, 2) := by decide +kernel
theorem dX11_withParcels_43 : decode cX11_withParcels 43 = .ok (.invokevirtual 156, 3) := by decide +kernel
theorem dX11_withParcels_46 : decode cX11_withParcels 46 = .ok (.i2l, 1) := by decide +kernel
theorem dX11_withParcels_47 : decode cX11_withParcels 47 = .ok (.invokestatic 301, 3) := by decide +kernel
theorem dX11_withParcels_50 : decode cX11_withParcels 50 = .ok (.lstore_n 3, 1) := by decide +kernel
theorem dX11_withParcels_51 : decode cX11_withParcels 51 = .ok (.iinc 6 1, 3) := by decide +kernel
theorem dX11_withParcels_54 : decode cX11_withParcels 54 = .ok (.goto (-34), 3) := by decide +kernel
theorem dX11_withParcels_57 : decode cX11_withParcels 57 = .ok (.iinc 5 1, 3) := by decide +kernel
theorem dX11_withParcels_60 : decode cX11_withParcels 60 = .ok (.goto (-55), 3) := by decide +kernel
theorem dX11_withParcels_63 : decode cX11_withParcels 63 = .ok (.lload_n 3, 1) := by decide +kernel
theorem dX11_withParcels_64 : decode cX11_withParcels 64 = .ok (.lreturn, 1) := by decide +kernel
theorem dX11_withVans_0 : decode cX11_withVans 0 = .ok (.lload_n 1, 1) := by decide +kernel
theorem dX11_withVans_1 : decode cX11_withVans 1 = .ok (.lstore_n 3, 1) := by decide +kernel
theorem dX11_withVans_2 : decode cX11_withVans 2 = .ok (.iconst 0, 1) := by decide +kernel
theorem dX11_withVans_3 : decode cX11_withVans 3 = .ok (.istore 5, 2) := by decide +kernel
theorem dX11_withVans_5 : decode cX11_withVans 5 = .ok (.iload 5, 2) := by decide +kernel
theorem dX11_withVans_7 : decode cX11_withVans 7 = .ok (.aload_n 0, 1) := by decide +kernel
theorem dX11_withVans_8 : decode cX11_withVans 8 = .ok (.getfield 26, 3) := by decide +kernel
theorem dX11_withVans_11 : decode cX11_withVans 11 = .ok (.invokevirtual 101, 3) := by decide +kernel
theorem dX11_withVans_14 : decode cX11_withVans 14 = .ok (.if_icmp .ge 94, 3) := by decide +kernel
theorem dX11_withVans_17 : decode cX11_withVans 17 = .ok (.aload_n 0, 1) := by decide +kernel
theorem dX11_withVans_18 : decode cX11_withVans 18 = .ok (.getfield 26, 3) := by decide +kernel
theorem dX11_withVans_21 : decode cX11_withVans 21 = .ok (.iload 5, 2) := by decide +kernel
theorem dX11_withVans_23 : decode cX11_withVans 23 = .ok (.invokevirtual 124, 3) := by decide +kernel
theorem dX11_withVans_26 : decode cX11_withVans 26 = .ok (.checkcast 139, 3) := by decide +kernel
theorem dX11_withVans_29 : decode cX11_withVans 29 = .ok (.astore 6, 2) := by decide +kernel
theorem dX11_withVans_31 : decode cX11_withVans 31 = .ok (.iconst 0, 1) := by decide +kernel
theorem dX11_withVans_32 : decode cX11_withVans 32 = .ok (.istore 7, 2) := by decide +kernel
theorem dX11_withVans_34 : decode cX11_withVans 34 = .ok (.iload 7, 2) := by decide +kernel
theorem dX11_withVans_36 : decode cX11_withVans 36 = .ok (.bipush 10, 2) := by decide +kernel
theorem dX11_withVans_38 : decode cX11_withVans 38 = .ok (.if_icmp .ge 23, 3) := by decide +kernel
theorem dX11_withVans_41 : decode cX11_withVans 41 = .ok (.lload_n 3, 1) := by decide +kernel
theorem dX11_withVans_42 : decode cX11_withVans 42 = .ok (.aload_n 0, 1) := by decide +kernel
theorem dX11_withVans_43 : decode cX11_withVans 43 = .ok (.aload 6, 2) := by decide +kernel
theorem dX11_withVans_45 : decode cX11_withVans 45 = .ok (.iload 7, 2) := by decide +kernel
theorem dX11_withVans_47 : decode cX11_withVans 47 = .ok (.invokevirtual 208, 3) := by decide +kernel
theorem dX11_withVans_50 : decode cX11_withVans 50 = .ok (.i2l, 1) := by decide +kernel
theorem dX11_withVans_51 : decode cX11_withVans 51 = .ok (.invokestatic 301, 3) := by decide +kernel
theorem dX11_withVans_54 : decode cX11_withVans 54 = .ok (.lstore_n 3, 1) := by decide +kernel
theorem dX11_withVans_55 : decode cX11_withVans 55 = .ok (.iinc 7 1, 3) := by decide +kernel
theorem dX11_withVans_58 : decode cX11_withVans 58 = .ok (.goto (-24), 3) := by decide +kernel
theorem dX11_withVans_61 : decode cX11_withVans 61 = .ok (.iconst 0, 1) := by decide +kernel
theorem dX11_withVans_62 : decode cX11_withVans 62 = .ok (.istore 7, 2) := by decide +kernel
theorem dX11_withVans_64 : decode cX11_withVans 64 = .ok (.iload 7, 2) := by decide +kernel
theorem dX11_withVans_66 : decode cX11_withVans 66 = .ok (.aload 6, 2) := by decide +kernel
theorem dX11_withVans_68 : decode cX11_withVans 68 = .ok (.getfield 187, 3) := by decide +kernel
theorem dX11_withVans_71 : decode cX11_withVans 71 = .ok (.getfield 246, 3) := by decide +kernel
theorem dX11_withVans_74 : decode cX11_withVans 74 = .ok (.if_icmp .ge 28, 3) := by decide +kernel
theorem dX11_withVans_77 : decode cX11_withVans 77 = .ok (.lload_n 3, 1) := by decide +kernel
theorem dX11_withVans_78 : decode cX11_withVans 78 = .ok (.aload 6, 2) := by decide +kernel
theorem dX11_withVans_80 : decode cX11_withVans 80 = .ok (.getfield 187, 3) := by decide +kernel
theorem dX11_withVans_83 : decode cX11_withVans 83 = .ok (.iload 7, 2) := by decide +kernel
theorem dX11_withVans_85 : decode cX11_withVans 85 = .ok (.invokevirtual 201, 3) := by decide +kernel
theorem dX11_withVans_88 : decode cX11_withVans 88 = .ok (.getfield 205, 3) := by decide +kernel
theorem dX11_withVans_91 : decode cX11_withVans 91 = .ok (.i2l, 1) := by decide +kernel
theorem dX11_withVans_92 : decode cX11_withVans 92 = .ok (.invokestatic 301, 3) := by decide +kernel
theorem dX11_withVans_95 : decode cX11_withVans 95 = .ok (.lstore_n 3, 1) := by decide +kernel
theorem dX11_withVans_96 : decode cX11_withVans 96 = .ok (.iinc 7 1, 3) := by decide +kernel
theorem dX11_withVans_99 : decode cX11_withVans 99 = .ok (.goto (-35), 3) := by decide +kernel
theorem dX11_withVans_102 : decode cX11_withVans 102 = .ok (.iinc 5 1, 3) := by decide +kernel
theorem dX11_withVans_105 : decode cX11_withVans 105 = .ok (.goto (-100), 3) := by decide +kernel
theorem dX11_withVans_108 : decode cX11_withVans 108 = .ok (.lload_n 3, 1) := by decide +kernel
theorem dX11_withVans_109 : decode cX11_withVans 109 = .ok (.lreturn, 1) := by decide +kernel
section BL
variable {p : Program} {l : Launch} {e : Env} {s : State} {m : MethodId} {args : Array Value} {below : List Frame} {meth : Method} {c : Code} {w : Wd} {S : St}
theorem bX11_init_0 (B : Bd p s m args meth c cX11_init 1 (wsOf yX11_init cX11_init 1 none) RX11 w none "<init>") {v0 : Nat} {k n : Nat} {Q : State → Prop} (h1 : k + 1 ≤ rX11_init.cells) (h2 : n + 2 ≤ rX11_init.slots) (kk : ∀ q5 : Nat, kd S q5 = 0 → K p l e rX11_init s m args below meth c 1 w (k + 1) (n + 2) Q (nw S q5 10 0) 8 [(0, .ref v0)] [.ref q5, .ref v0]) : K p l e rX11_init s m args below meth c 1 w k n Q S 0 [(0, .ref v0)] [] := by
  refine k_aload_n B 0 rfl rfl dX11_init_0 ?_
  refine k_objInit B (in_of qlRX11_1) (in_of qi_obj) (in_of qc_obj) (Nat.le_of_ble_eq_true rfl) (Nat.le_of_ble_eq_true rfl) dX11_init_1 ?_
  refine k_aload_n B 0 rfl rfl dX11_init_4 ?_
  refine k_new B 9 rfl rfl (by decide) tyX8 tyX8_ok (by decide +kernel) (fun w h => in_of (uw_9 w h)) (in_of qkRX11_7) (in_of qn9) (in_of qzRX8) h1 h2 dX11_init_5 (fun q5 f5 => ?_)
  exact kk q5 f5
theorem bX11_init_8 (B : Bd p s m args meth c cX11_init 1 (wsOf yX11_init cX11_init 1 none) RX11 w none "<init>") {v0 : Nat} {t0 : Nat} {t1 : Nat} {post : St → Prop} {k n : Nat} {Q : State → Prop} (hc : ConV l yX8_init (wsOf yX8_init cX8_init 2 none) rX8_init w S [.ref t1] post) (h1 : k + 2 ≤ rX11_init.cells) (h2 : n + 26 ≤ rX11_init.slots) (kk : ∀ (S' : St), post S' → K p l e rX11_init s m args below meth c 1 w (k + 2) (n + 26) Q S' 12 [(0, .ref v0)] [.ref t1, .ref t0]) : K p l e rX11_init s m args below meth c 1 w k n Q S 8 [(0, .ref v0)] [.ref t1, .ref t0] := by
  refine k_dup B rfl dX11_init_8 ?_
  refine callC_V (st := [.ref t1, .ref t0]) B [] (hc) (cwI 0 B.1.2.2.2.2 (gB qcX8_init) rfl rfl rfl (B.1.2.2.2.2 _ (in_of qzRX8)) (B.1.2.2.2.2 _ (in_of qlRX11_9)) (B.1.2.2.2.2 _ (in_of qiX8_init)) rfl (by decide +kernel) ⟨Nat.le_of_ble_eq_true rfl, Nat.le_of_ble_eq_true rfl⟩) rfl (Nat.le_of_ble_eq_true rfl) rfl dX11_init_9 ⟨h1, h2⟩ (fun S' hp => ?_)
  exact kk S' hp
theorem bX11_init_12 (B : Bd p s m args meth c cX11_init 1 (wsOf yX11_init cX11_init 1 none) RX11 w none "<init>") {v0 : Nat} {t0 : Nat} {t1 : Nat} {k n : Nat} {Q : State → Prop} (h1 : kd S t0 = 13) (h2 : k + 1 ≤ rX11_init.cells) (h3 : n + 3 ≤ rX11_init.slots) (kk : ∀ q16 : Nat, kd (sP S 768 t0 (some t1)) q16 = 0 → K p l e rX11_init s m args below meth c 1 w (k + 1) (n + 3) Q (nw (sP S 768 t0 (some t1)) q16 1 0) 19 [(0, .ref v0)] [.ref q16, .ref v0]) : K p l e rX11_init s m args below meth c 1 w k n Q S 12 [(0, .ref v0)] [.ref t1, .ref t0] := by
  refine k_putPF (f := 768) (v := some t1) B 12 0 rfl (by decide) rfl (by decide) rfl rfl (fun w h => in_of (uw_12 w h)) (in_of qfRX11_10) tyX11 tyX11_ok nmX11 rfl rfl rfl (tyX11_ok 0 (by decide)) rfl rfl dX11_init_12 h1 ?_
  refine k_aload_n B 0 rfl rfl dX11_init_15 ?_
  refine k_new B 0 rfl rfl (by decide) tyJx4a65c tyJx4a65c_ok (by decide +kernel) (fun w h => in_of (uw_0 w h)) (in_of qkRX11_16) (in_of qn0) (in_of qzRJx4a65c) h2 h3 dX11_init_16 (fun q16 f16 => ?_)
  exact kk q16 f16
theorem bX11_init_19 (B : Bd p s m args meth c cX11_init 1 (wsOf yX11_init cX11_init 1 none) RX11 w none "<init>") {v0 : Nat} {t0 : Nat} {t1 : Nat} {post : St → Prop} {k n : Nat} {Q : State → Prop} (hc : ConV l yJx4a65c_init_da8c8 (wsOf yJx4a65c_init_da8c8 cJx4a65c_init_da8c8 1 none) rJx4a65c_init_da8c8 w S [.ref t1] post) (h1 : k + 0 ≤ rX11_init.cells) (h2 : n + 0 ≤ rX11_init.slots) (kk : ∀ (S' : St), post S' → K p l e rX11_init s m args below meth c 1 w k n Q S' 23 [(0, .ref v0)] [.ref t1, .ref t0]) : K p l e rX11_init s m args below meth c 1 w k n Q S 19 [(0, .ref v0)] [.ref t1, .ref t0] := by
  refine k_dup B rfl dX11_init_19 ?_
  refine callC_V (st := [.ref t1, .ref t0]) B [] (hc) (cwI 0 B.1.2.2.2.2 (gB qcJx4a65c_init_da8c8) rfl rfl rfl (B.1.2.2.2.2 _ (in_of qzRJx4a65c)) (B.1.2.2.2.2 _ (in_of qlRX11_18)) (B.1.2.2.2.2 _ (in_of qiJx4a65c_init_da8c8)) rfl (by decide +kernel) ⟨Nat.le_of_ble_eq_true rfl, Nat.le_of_ble_eq_true rfl⟩) rfl (Nat.le_of_ble_eq_true rfl) rfl dX11_init_20 ⟨h1, h2⟩ (fun S' hp => ?_)
  exact kk S' hp
theorem bX11_init_23 (B : Bd p s m args meth c cX11_init 1 (wsOf yX11_init cX11_init 1 none) RX11 w none "<init>") {v0 : Nat} {t0 : Nat} {t1 : Nat} {k n : Nat} {Q : State → Prop} (h1 : kd S t0 = 13) (h2 : k + 1 ≤ rX11_init.cells) (h3 : n + 3 ≤ rX11_init.slots) (kk : ∀ q27 : Nat, kd (sP S 769 t0 (some t1)) q27 = 0 → K p l e rX11_init s m args below meth c 1 w (k + 1) (n + 3) Q (nw (sP S 769 t0 (some t1)) q27 1 0) 30 [(0, .ref v0)] [.ref q27, .ref v0]) : K p l e rX11_init s m args below meth c 1 w k n Q S 23 [(0, .ref v0)] [.ref t1, .ref t0] := by
  refine k_putPF (f := 769) (v := some t1) B 12 1 rfl (by decide) rfl (by decide) rfl rfl (fun w h => in_of (uw_12 w h)) (in_of qfRX11_19) tyX11 tyX11_ok nmX11 rfl rfl rfl (tyX11_ok 1 (by decide)) rfl rfl dX11_init_23 h1 ?_
  refine k_aload_n B 0 rfl rfl dX11_init_26 ?_
  refine k_new B 0 rfl rfl (by decide) tyJx4a65c tyJx4a65c_ok (by decide +kernel) (fun w h => in_of (uw_0 w h)) (in_of qkRX11_16) (in_of qn0) (in_of qzRJx4a65c) h2 h3 dX11_init_27 (fun q27 f27 => ?_)
  exact kk q27 f27
theorem bX11_init_30 (B : Bd p s m args meth c cX11_init 1 (wsOf yX11_init cX11_init 1 none) RX11 w none "<init>") {v0 : Nat} {t0 : Nat} {t1 : Nat} {post : St → Prop} {k n : Nat} {Q : State → Prop} (hc : ConV l yJx4a65c_init_da8c8 (wsOf yJx4a65c_init_da8c8 cJx4a65c_init_da8c8 1 none) rJx4a65c_init_da8c8 w S [.ref t1] post) (h1 : k + 0 ≤ rX11_init.cells) (h2 : n + 0 ≤ rX11_init.slots) (kk : ∀ (S' : St), post S' → K p l e rX11_init s m args below meth c 1 w k n Q S' 34 [(0, .ref v0)] [.ref t1, .ref t0]) : K p l e rX11_init s m args below meth c 1 w k n Q S 30 [(0, .ref v0)] [.ref t1, .ref t0] := by
  refine k_dup B rfl dX11_init_30 ?_
  refine callC_V (st := [.ref t1, .ref t0]) B [] (hc) (cwI 0 B.1.2.2.2.2 (gB qcJx4a65c_init_da8c8) rfl rfl rfl (B.1.2.2.2.2 _ (in_of qzRJx4a65c)) (B.1.2.2.2.2 _ (in_of qlRX11_18)) (B.1.2.2.2.2 _ (in_of qiJx4a65c_init_da8c8)) rfl (by decide +kernel) ⟨Nat.le_of_ble_eq_true rfl, Nat.le_of_ble_eq_true rfl⟩) rfl (Nat.le_of_ble_eq_true rfl) rfl dX11_init_31 ⟨h1, h2⟩ (fun S' hp => ?_)
  exact kk S' hp
theorem bX11_init_34 (B : Bd p s m args meth c cX11_init 1 (wsOf yX11_init cX11_init 1 none) RX11 w none "<init>") {v0 : Nat} {t0 : Nat} {t1 : Nat} {k n : Nat} {Q : State → Prop} (h1 : kd S t0 = 13) (h2 : k + 1 ≤ rX11_init.cells) (h3 : n + 3 ≤ rX11_init.slots) (kk : ∀ q38 : Nat, kd (sP S 770 t0 (some t1)) q38 = 0 → K p l e rX11_init s m args below meth c 1 w (k + 1) (n + 3) Q (nw (sP S 770 t0 (some t1)) q38 1 0) 41 [(0, .ref v0)] [.ref q38, .ref v0]) : K p l e rX11_init s m args below meth c 1 w k n Q S 34 [(0, .ref v0)] [.ref t1, .ref t0] := by
  refine k_putPF (f := 770) (v := some t1) B 12 2 rfl (by decide) rfl (by decide) rfl rfl (fun w h => in_of (uw_12 w h)) (in_of qfRX11_23) tyX11 tyX11_ok nmX11 rfl rfl rfl (tyX11_ok 2 (by decide)) rfl rfl dX11_init_34 h1 ?_
  refine k_aload_n B 0 rfl rfl dX11_init_37 ?_
  refine k_new B 0 rfl rfl (by decide) tyJx4a65c tyJx4a65c_ok (by decide +kernel) (fun w h => in_of (uw_0 w h)) (in_of qkRX11_16) (in_of qn0) (in_of qzRJx4a65c) h2 h3 dX11_init_38 (fun q38 f38 => ?_)
  exact kk q38 f38
theorem bX11_init_41 (B : Bd p s m args meth c cX11_init 1 (wsOf yX11_init cX11_init 1 none) RX11 w none "<init>") {v0 : Nat} {t0 : Nat} {t1 : Nat} {post : St → Prop} {k n : Nat} {Q : State → Prop} (hc : ConV l yJx4a65c_init_da8c8 (wsOf yJx4a65c_init_da8c8 cJx4a65c_init_da8c8 1 none) rJx4a65c_init_da8c8 w S [.ref t1] post) (h1 : k + 0 ≤ rX11_init.cells) (h2 : n + 0 ≤ rX11_init.slots) (kk : ∀ (S' : St), post S' → K p l e rX11_init s m args below meth c 1 w k n Q S' 45 [(0, .ref v0)] [.ref t1, .ref t0]) : K p l e rX11_init s m args below meth c 1 w k n Q S 41 [(0, .ref v0)] [.ref t1, .ref t0] := by
  refine k_dup B rfl dX11_init_41 ?_
  refine callC_V (st := [.ref t1, .ref t0]) B [] (hc) (cwI 0 B.1.2.2.2.2 (gB qcJx4a65c_init_da8c8) rfl rfl rfl (B.1.2.2.2.2 _ (in_of qzRJx4a65c)) (B.1.2.2.2.2 _ (in_of qlRX11_18)) (B.1.2.2.2.2 _ (in_of qiJx4a65c_init_da8c8)) rfl (by decide +kernel) ⟨Nat.le_of_ble_eq_true rfl, Nat.le_of_ble_eq_true rfl⟩) rfl (Nat.le_of_ble_eq_true rfl) rfl dX11_init_42 ⟨h1, h2⟩ (fun S' hp => ?_)
  exact kk S' hp
theorem bX11_init_45 (B : Bd p s m args meth c cX11_init 1 (wsOf yX11_init cX11_init 1 none) RX11 w none "<init>") {v0 : Nat} {t0 : Nat} {t1 : Nat} {k n : Nat} {Q : State → Prop} (h1 : kd S t0 = 13) (h2 : k + 1 ≤ rX11_init.cells) (h3 : n + 3 ≤ rX11_init.slots) (kk : ∀ q49 : Nat, kd (sP S 771 t0 (some t1)) q49 = 0 → K p l e rX11_init s m args below meth c 1 w (k + 1) (n + 3) Q (nw (sP S 771 t0 (some t1)) q49 1 0) 52 [(0, .ref v0)] [.ref q49, .ref v0]) : K p l e rX11_init s m args below meth c 1 w k n Q S 45 [(0, .ref v0)] [.ref t1, .ref t0] := by
  refine k_putPF (f := 771) (v := some t1) B 12 3 rfl (by decide) rfl (by decide) rfl rfl (fun w h => in_of (uw_12 w h)) (in_of qfRX11_26) tyX11 tyX11_ok nmX11 rfl rfl rfl (tyX11_ok 3 (by decide)) rfl rfl dX11_init_45 h1 ?_
  refine k_aload_n B 0 rfl rfl dX11_init_48 ?_
  refine k_new B 0 rfl rfl (by decide) tyJx4a65c tyJx4a65c_ok (by decide +kernel) (fun w h => in_of (uw_0 w h)) (in_of qkRX11_16) (in_of qn0) (in_of qzRJx4a65c) h2 h3 dX11_init_49 (fun q49 f49 => ?_)
  exact kk q49 f49
theorem bX11_init_52 (B : Bd p s m args meth c cX11_init 1 (wsOf yX11_init cX11_init 1 none) RX11 w none "<init>") {v0 : Nat} {t0 : Nat} {t1 : Nat} {post : St → Prop} {k n : Nat} {Q : State → Prop} (hc : ConV l yJx4a65c_init_da8c8 (wsOf yJx4a65c_init_da8c8 cJx4a65c_init_da8c8 1 none) rJx4a65c_init_da8c8 w S [.ref t1] post) (h1 : k + 0 ≤ rX11_init.cells) (h2 : n + 0 ≤ rX11_init.slots) (kk : ∀ (S' : St), post S' → K p l e rX11_init s m args below meth c 1 w k n Q S' 56 [(0, .ref v0)] [.ref t1, .ref t0]) : K p l e rX11_init s m args below meth c 1 w k n Q S 52 [(0, .ref v0)] [.ref t1, .ref t0] := by
  refine k_dup B rfl dX11_init_52 ?_
  refine callC_V (st := [.ref t1, .ref t0]) B [] (hc) (cwI 0 B.1.2.2.2.2 (gB qcJx4a65c_init_da8c8) rfl rfl rfl (B.1.2.2.2.2 _ (in_of qzRJx4a65c)) (B.1.2.2.2.2 _ (in_of qlRX11_18)) (B.1.2.2.2.2 _ (in_of qiJx4a65c_init_da8c8)) rfl (by decide +kernel) ⟨Nat.le_of_ble_eq_true rfl, Nat.le_of_ble_eq_true rfl⟩) rfl (Nat.le_of_ble_eq_true rfl) rfl dX11_init_53 ⟨h1, h2⟩ (fun S' hp => ?_)
  exact kk S' hp
theorem bX11_init_56 (B : Bd p s m args meth c cX11_init 1 (wsOf yX11_init cX11_init 1 none) RX11 w none "<init>") {v0 : Nat} {t0 : Nat} {t1 : Nat} {k n : Nat} {Q : State → Prop} (h1 : kd S t0 = 13) (h2 : k + 1 ≤ rX11_init.cells) (h3 : n + 6 ≤ rX11_init.slots) (kk : ∀ q60 : Nat, kd (sP S 772 t0 (some t1)) q60 = 0 → K p l e rX11_init s m args below meth c 1 w (k + 1) (n + 6) Q (nw (sP S 772 t0 (some t1)) q60 9 0) 63 [(0, .ref v0)] [.ref q60, .ref v0]) : K p l e rX11_init s m args below meth c 1 w k n Q S 56 [(0, .ref v0)] [.ref t1, .ref t0] := by
  refine k_putPF (f := 772) (v := some t1) B 12 4 rfl (by decide) rfl (by decide) rfl rfl (fun w h => in_of (uw_12 w h)) (in_of qfRX11_29) tyX11 tyX11_ok nmX11 rfl rfl rfl (tyX11_ok 4 (by decide)) rfl rfl dX11_init_56 h1 ?_
  refine k_aload_n B 0 rfl rfl dX11_init_59 ?_
  refine k_new B 8 rfl rfl (by decide) tyX7 tyX7_ok (by decide +kernel) (fun w h => in_of (uw_8 w h)) (in_of qkRX11_32) (in_of qn8) (in_of qzRX7) h2 h3 dX11_init_60 (fun q60 f60 => ?_)
  exact kk q60 f60
theorem bX11_init_63 (B : Bd p s m args meth c cX11_init 1 (wsOf yX11_init cX11_init 1 none) RX11 w none "<init>") {v0 : Nat} {t0 : Nat} {t1 : Nat} {x1 : Nat} {post : St → Prop} {k n : Nat} {Q : State → Prop} (h1 : kd S v0 = 13) (h2 : gP S 768 v0 = some x1) (hc : ConV l yX7_init (wsOf yX7_init cX7_init 2 none) rX7_init w S [.ref t1, .ref x1] post) (h3 : k + 4 ≤ rX11_init.cells) (h4 : n + 42 ≤ rX11_init.slots) (kk : ∀ (S' : St), post S' → K p l e rX11_init s m args below meth c 1 w (k + 4) (n + 42) Q S' 71 [(0, .ref v0)] [.ref t1, .ref t0]) : K p l e rX11_init s m args below meth c 1 w k n Q S 63 [(0, .ref v0)] [.ref t1, .ref t0] := by
  refine k_dup B rfl dX11_init_63 ?_
  refine k_aload_n B 0 rfl rfl dX11_init_64 ?_
  refine k_getP (f := 768) (r := gP S 768 v0) B 12 0 rfl (by decide) rfl (by decide) rfl rfl (fun w h => in_of (uw_12 w h)) (in_of qfRX11_10) dX11_init_65 h1 rfl ?_
  rw [h2]; change K _ _ _ _ _ _ _ _ _ _ _ _ _ _ _ _ _ _ (.ref x1 :: _)
  refine callC_V (st := [.ref t1, .ref t0]) B [.ref x1] (hc) (cwI 1 B.1.2.2.2.2 (gB qcX7_init) rfl rfl rfl (B.1.2.2.2.2 _ (in_of qzRX7)) (B.1.2.2.2.2 _ (in_of qlRX11_34)) (B.1.2.2.2.2 _ (in_of qiX7_init)) rfl (by decide +kernel) ⟨Nat.le_of_ble_eq_true rfl, Nat.le_of_ble_eq_true rfl⟩) rfl (Nat.le_of_ble_eq_true rfl) rfl dX11_init_68 ⟨h3, h4⟩ (fun S' hp => ?_)
  exact kk S' hp
theorem bX11_init_71 (B : Bd p s m args meth c cX11_init 1 (wsOf yX11_init cX11_init 1 none) RX11 w none "<init>") {v0 : Nat} {t0 : Nat} {t1 : Nat} {k n : Nat} {Q : State → Prop} (h1 : kd S t0 = 13) (h2 : k + 1 ≤ rX11_init.cells) (h3 : n + 6 ≤ rX11_init.slots) (kk : ∀ q75 : Nat, kd (sP S 773 t0 (some t1)) q75 = 0 → K p l e rX11_init s m args below meth c 1 w (k + 1) (n + 6) Q (nw (sP S 773 t0 (some t1)) q75 7 0) 78 [(0, .ref v0)] [.ref q75, .ref v0]) : K p l e rX11_init s m args below meth c 1 w k n Q S 71 [(0, .ref v0)] [.ref t1, .ref t0] := by
  refine k_putPF (f := 773) (v := some t1) B 12 5 rfl (by decide) rfl (by decide) rfl rfl (fun w h => in_of (uw_12 w h)) (in_of qfRX11_37) tyX11 tyX11_ok nmX11 rfl rfl rfl (tyX11_ok 5 (by decide)) rfl rfl dX11_init_71 h1 ?_
  refine k_aload_n B 0 rfl rfl dX11_init_74 ?_
  refine k_new B 6 rfl rfl (by decide) tyX5 tyX5_ok (by decide +kernel) (fun w h => in_of (uw_6 w h)) (in_of qkRX11_41) (in_of qn6) (in_of qzRX5) h2 h3 dX11_init_75 (fun q75 f75 => ?_)
  exact kk q75 f75
theorem bX11_init_78 (B : Bd p s m args meth c cX11_init 1 (wsOf yX11_init cX11_init 1 none) RX11 w none "<init>") {v0 : Nat} {t0 : Nat} {t1 : Nat} {x1 : Nat} {x2 : Nat} {x3 : Nat} {post : St → Prop} {k n : Nat} {Q : State → Prop} (h1 : kd S v0 = 13) (h2 : gP S 768 v0 = some x1) (h3 : gP S 769 v0 = some x2) (h4 : gP S 770 v0 = some x3) (hc : ConV l yX5_init (wsOf yX5_init cX5_init 4 none) rX5_init w S [.ref t1, .ref x1, .ref x2, .ref x3] post) (h5 : k + 1 ≤ rX11_init.cells) (h6 : n + 6 ≤ rX11_init.slots) (kk : ∀ (S' : St), post S' → K p l e rX11_init s m args below meth c 1 w (k + 1) (n + 6) Q S' 94 [(0, .ref v0)] [.ref t1, .ref t0]) : K p l e rX11_init s m args below meth c 1 w k n Q S 78 [(0, .ref v0)] [.ref t1, .ref t0] := by
  refine k_dup B rfl dX11_init_78 ?_
  refine k_aload_n B 0 rfl rfl dX11_init_79 ?_
  refine k_getP (f := 768) (r := gP S 768 v0) B 12 0 rfl (by decide) rfl (by decide) rfl rfl (fun w h => in_of (uw_12 w h)) (in_of qfRX11_10) dX11_init_80 h1 rfl ?_
  rw [h2]; change K _ _ _ _ _ _ _ _ _ _ _ _ _ _ _ _ _ _ (.ref x1 :: _)
  refine k_aload_n B 0 rfl rfl dX11_init_83 ?_
  refine k_getP (f := 769) (r := gP S 769 v0) B 12 1 rfl (by decide) rfl (by decide) rfl rfl (fun w h => in_of (uw_12 w h)) (in_of qfRX11_19) dX11_init_84 h1 rfl ?_
  rw [h3]; change K _ _ _ _ _ _ _ _ _ _ _ _ _ _ _ _ _ _ (.ref x2 :: _)
  refine k_aload_n B 0 rfl rfl dX11_init_87 ?_
  refine k_getP (f := 770) (r := gP S 770 v0) B 12 2 rfl (by decide) rfl (by decide) rfl rfl (fun w h => in_of (uw_12 w h)) (in_of qfRX11_23) dX11_init_88 h1 rfl ?_
  rw [h4]; change K _ _ _ _ _ _ _ _ _ _ _ _ _ _ _ _ _ _ (.ref x3 :: _)
  refine callC_V (st := [.ref t1, .ref t0]) B [.ref x1, .ref x2, .ref x3] (hc) (cwI 3 B.1.2.2.2.2 (gB qcX5_init) rfl rfl rfl (B.1.2.2.2.2 _ (in_of qzRX5)) (B.1.2.2.2.2 _ (in_of qlRX11_43)) (B.1.2.2.2.2 _ (in_of qiX5_init)) rfl (by decide +kernel) ⟨Nat.le_of_ble_eq_true rfl, Nat.le_of_ble_eq_true rfl⟩) rfl (Nat.le_of_ble_eq_true rfl) rfl dX11_init_91 ⟨h5, h6⟩ (fun S' hp => ?_)
  exact kk S' hp
theorem bX11_init_94 (B : Bd p s m args meth c cX11_init 1 (wsOf yX11_init cX11_init 1 none) RX11 w none "<init>") {v0 : Nat} {t0 : Nat} {t1 : Nat} {k n : Nat} {Q : State → Prop} (h1 : kd S t0 = 13) (h2 : k + 1 ≤ rX11_init.cells) (h3 : n + 3 ≤ rX11_init.slots) (kk : ∀ q98 : Nat, kd (sP S 774 t0 (some t1)) q98 = 0 → K p l e rX11_init s m args below meth c 1 w (k + 1) (n + 3) Q (nw (sP S 774 t0 (some t1)) q98 2 0) 101 [(0, .ref v0)] [.ref q98, .ref v0]) : K p l e rX11_init s m args below meth c 1 w k n Q S 94 [(0, .ref v0)] [.ref t1, .ref t0] := by
  refine k_putPF (f := 774) (v := some t1) B 12 6 rfl (by decide) rfl (by decide) rfl rfl (fun w h => in_of (uw_12 w h)) (in_of qfRX11_46) tyX11 tyX11_ok nmX11 rfl rfl rfl (tyX11_ok 6 (by decide)) rfl rfl dX11_init_94 h1 ?_
  refine k_aload_n B 0 rfl rfl dX11_init_97 ?_
  refine k_new B 1 rfl rfl (by decide) tyX0 tyX0_ok (by decide +kernel) (fun w h => in_of (uw_1 w h)) (in_of qkRX11_50) (in_of qn1) (in_of qzRX0) h2 h3 dX11_init_98 (fun q98 f98 => ?_)
  exact kk q98 f98
theorem bX11_init_101 (B : Bd p s m args meth c cX11_init 1 (wsOf yX11_init cX11_init 1 none) RX11 w none "<init>") {v0 : Nat} {t0 : Nat} {t1 : Nat} {post : St → Prop} {k n : Nat} {Q : State → Prop} (hc : ConV l yX0_init (wsOf yX0_init cX0_init 1 none) rX0_init w S [.ref t1] post) (h1 : k + 0 ≤ rX11_init.cells) (h2 : n + 0 ≤ rX11_init.slots) (kk : ∀ (S' : St), post S' → K p l e rX11_init s m args below meth c 1 w k n Q S' 105 [(0, .ref v0)] [.ref t1, .ref t0]) : K p l e rX11_init s m args below meth c 1 w k n Q S 101 [(0, .ref v0)] [.ref t1, .ref t0] := by
  refine k_dup B rfl dX11_init_101 ?_
  refine callCN_V (st := [.ref t1, .ref t0]) B [] (hc) ⟨va_cnB 0 B.1.2.2.2.2 (gB qcX0_init) rfl rfl rfl (nzM_0 B.2.2.2.1.2.2.2.1) (B.1.2.2.2.2 _ (in_of qzRX0)) (by decide +kernel) ⟨Nat.le_of_ble_eq_true rfl, Nat.le_of_ble_eq_true rfl⟩, rfl, B.1.2.2.2.2 _ (in_of qiX0_init)⟩ rfl (Nat.le_of_ble_eq_true rfl) rfl dX11_init_102 ⟨h1, h2⟩ (fun S' hp => ?_)
  exact kk S' hp
theorem bX11_init_105 (B : Bd p s m args meth c cX11_init 1 (wsOf yX11_init cX11_init 1 none) RX11 w none "<init>") {v0 : Nat} {t0 : Nat} {t1 : Nat} {k n : Nat} {Q : State → Prop} (h1 : kd S t0 = 13) (h2 : k + 1 ≤ rX11_init.cells) (h3 : n + 2 ≤ rX11_init.slots) (kk : ∀ q109 : Nat, kd (sP S 775 t0 (some t1)) q109 = 0 → K p l e rX11_init s m args below meth c 1 w (k + 1) (n + 2) Q (nw (sP S 775 t0 (some t1)) q109 8 0) 112 [(0, .ref v0)] [.ref q109, .ref v0]) : K p l e rX11_init s m args below meth c 1 w k n Q S 105 [(0, .ref v0)] [.ref t1, .ref t0] := by
  refine k_putPF (f := 775) (v := some t1) B 12 7 rfl (by decide) rfl (by decide) rfl rfl (fun w h => in_of (uw_12 w h)) (in_of qfRX11_53) tyX11 tyX11_ok nmX11 rfl rfl rfl (tyX11_ok 7 (by decide)) rfl rfl dX11_init_105 h1 ?_
  refine k_aload_n B 0 rfl rfl dX11_init_108 ?_
  refine k_new B 7 rfl rfl (by decide) tyX6 tyX6_ok (by decide +kernel) (fun w h => in_of (uw_7 w h)) (in_of qkRX11_57) (in_of qn7) (in_of qzRX6) h2 h3 dX11_init_109 (fun q109 f109 => ?_)
  exact kk q109 f109
theorem bX11_init_112 (B : Bd p s m args meth c cX11_init 1 (wsOf yX11_init cX11_init 1 none) RX11 w none "<init>") {v0 : Nat} {t0 : Nat} {t1 : Nat} {post : St → Prop} {k n : Nat} {Q : State → Prop} (hc : ConV l yX6_init (wsOf yX6_init cX6_init 1 none) rX6_init w S [.ref t1] post) (h1 : k + 1 ≤ rX11_init.cells) (h2 : n + 13 ≤ rX11_init.slots) (kk : ∀ (S' : St), post S' → K p l e rX11_init s m args below meth c 1 w (k + 1) (n + 13) Q S' 116 [(0, .ref v0)] [.ref t1, .ref t0]) : K p l e rX11_init s m args below meth c 1 w k n Q S 112 [(0, .ref v0)] [.ref t1, .ref t0] := by
  refine k_dup B rfl dX11_init_112 ?_
  refine callCN_V (st := [.ref t1, .ref t0]) B [] (hc) ⟨va_cnB 0 B.1.2.2.2.2 (gB qcX6_init) rfl rfl rfl (nzM_1 B.2.2.2.1.2.2.2.1) (B.1.2.2.2.2 _ (in_of qzRX6)) (by decide +kernel) ⟨Nat.le_of_ble_eq_true rfl, Nat.le_of_ble_eq_true rfl⟩, rfl, B.1.2.2.2.2 _ (in_of qiX6_init)⟩ rfl (Nat.le_of_ble_eq_true rfl) rfl dX11_init_113 ⟨h1, h2⟩ (fun S' hp => ?_)
  exact kk S' hp
theorem bX11_init_116 (B : Bd p s m args meth c cX11_init 1 (wsOf yX11_init cX11_init 1 none) RX11 w none "<init>") {v0 : Nat} {t0 : Nat} {t1 : Nat} {k n : Nat} {Q : State → Prop} (h1 : kd S t0 = 13) (h2 : k + 1 ≤ rX11_init.cells) (h3 : n + 2 ≤ rX11_init.slots) (kk : ∀ q120 : Nat, kd (sP S 776 t0 (some t1)) q120 = 0 → K p l e rX11_init s m args below meth c 1 w (k + 1) (n + 2) Q (nw (sP S 776 t0 (some t1)) q120 8 0) 123 [(0, .ref v0)] [.ref q120, .ref v0]) : K p l e rX11_init s m args below meth c 1 w k n Q S 116 [(0, .ref v0)] [.ref t1, .ref t0] := by
  refine k_putPF (f := 776) (v := some t1) B 12 8 rfl (by decide) rfl (by decide) rfl rfl (fun w h => in_of (uw_12 w h)) (in_of qfRX11_60) tyX11 tyX11_ok nmX11 rfl rfl rfl (tyX11_ok 8 (by decide)) rfl rfl dX11_init_116 h1 ?_
  refine k_aload_n B 0 rfl rfl dX11_init_119 ?_
  refine k_new B 7 rfl rfl (by decide) tyX6 tyX6_ok (by decide +kernel) (fun w h => in_of (uw_7 w h)) (in_of qkRX11_57) (in_of qn7) (in_of qzRX6) h2 h3 dX11_init_120 (fun q120 f120 => ?_)
  exact kk q120 f120
theorem bX11_init_123 (B : Bd p s m args meth c cX11_init 1 (wsOf yX11_init cX11_init 1 none) RX11 w none "<init>") {v0 : Nat} {t0 : Nat} {t1 : Nat} {post : St → Prop} {k n : Nat} {Q : State → Prop} (hc : ConV l yX6_init (wsOf yX6_init cX6_init 1 none) rX6_init w S [.ref t1] post) (h1 : k + 1 ≤ rX11_init.cells) (h2 : n + 13 ≤ rX11_init.slots) (kk : ∀ (S' : St), post S' → K p l e rX11_init s m args below meth c 1 w (k + 1) (n + 13) Q S' 127 [(0, .ref v0)] [.ref t1, .ref t0]) : K p l e rX11_init s m args below meth c 1 w k n Q S 123 [(0, .ref v0)] [.ref t1, .ref t0] := by
  refine k_dup B rfl dX11_init_123 ?_
  refine callCN_V (st := [.ref t1, .ref t0]) B [] (hc) ⟨va_cnB 0 B.1.2.2.2.2 (gB qcX6_init) rfl rfl rfl (nzM_1 B.2.2.2.1.2.2.2.1) (B.1.2.2.2.2 _ (in_of qzRX6)) (by decide +kernel) ⟨Nat.le_of_ble_eq_true rfl, Nat.le_of_ble_eq_true rfl⟩, rfl, B.1.2.2.2.2 _ (in_of qiX6_init)⟩ rfl (Nat.le_of_ble_eq_true rfl) rfl dX11_init_124 ⟨h1, h2⟩ (fun S' hp => ?_)
  exact kk S' hp
theorem bX11_init_127 (B : Bd p s m args meth c cX11_init 1 (wsOf yX11_init cX11_init 1 none) RX11 w none "<init>") {v0 : Nat} {t0 : Nat} {t1 : Nat} {post : St → Prop} {k n : Nat} (h1 : kd S t0 = 13) (h2 : kd S v0 = 13) (hq : post (sI (sP S 777 t0 (some t1)) 778 v0 0)) : K p l e rX11_init s m args below meth c 1 w k n (MQ below (va_Qv post (fun S' t => Hd w S' t.heap) (wA w)) args s k n (wA w)) S 127 [(0, .ref v0)] [.ref t1, .ref t0] := by
  refine k_putPF (f := 777) (v := some t1) B 12 9 rfl (by decide) rfl (by decide) rfl rfl (fun w h => in_of (uw_12 w h)) (in_of qfRX11_64) tyX11 tyX11_ok nmX11 rfl rfl rfl (tyX11_ok 9 (by decide)) rfl rfl dX11_init_127 h1 ?_
  refine k_aload_n B 0 rfl rfl dX11_init_130 ?_
  refine k_iconst (v := 0) B (by decide) dX11_init_131 ?_
  refine k_putI (f := 778) B 12 10 rfl (by decide) rfl (by decide) rfl rfl (fun w h => in_of (uw_12 w h)) (in_of qfRX11_67) tyX11 tyX11_ok nmX11 rfl (tyX11_ok 10 (by decide)) dX11_init_132 h2 ?_
  exact ret_V B rfl dX11_init_135 (hq)
theorem bX11_setRoads_0 (B : Bd p s m args meth c cX11_setRoads 4 (wsOf yX11_setRoads cX11_setRoads 4 (some .int)) RX11 w (some .int) "setRoads") (hl : l.stackTraces = false) (ht : ∀ x ∈ c.exceptionTable.toList, False) {v0 : Nat} {v1 : Int32} {v2 : Int32} {px : String → St → Prop} {post : St → Prop} {k n : Nat} {px' : String → St → Prop} {Qc : Array Value → State → Outcome → State → Prop} (hc : ConXV l yX11_needIndex (wsOf yX11_needIndex cX11_needIndex 2 none) rX11_needIndex w S [.int v1, .int 24] post px) (h1 : k + 1 ≤ rX11_setRoads.cells) (h2 : n + 6 ≤ rX11_setRoads.slots) (kx : ∀ (E : String) (S' : St), px E S' → px' E S') (kk : ∀ (S' : St), post S' → K p l e rX11_setRoads s m args below meth c 4 w (k + 1) (n + 6) (vx_MQ below Qc (XCs w px') args s rX11_setRoads.cells rX11_setRoads.slots (wA w)) S' 6 [(0, .ref v0), (1, .int v1), (2, .int v2)] []) : K p l e rX11_setRoads s m args below meth c 4 w k n (vx_MQ below Qc (XCs w px') args s rX11_setRoads.cells rX11_setRoads.slots (wA w)) S 0 [(0, .ref v0), (1, .int v1), (2, .int v2)] [] := by
  refine k_iload_n B 1 rfl rfl dX11_setRoads_0 ?_
  refine k_bipush (v := 24) B (by decide) dX11_setRoads_1 ?_
  refine tcallS_V (st := []) B ht [.int v1, .int 24] (hc) (va_cwS 2 B.1.2.2.2.2 (gS qlRX11_71 qsX11_needIndex qzRX11 qcX11_needIndex) rfl rfl rfl (by decide +kernel) ⟨Nat.le_of_ble_eq_true rfl, Nat.le_of_ble_eq_true rfl⟩) rfl (Nat.le_of_ble_eq_true rfl) rfl dX11_setRoads_3 ⟨h1, h2⟩ ⟨h1, h2⟩ (kx) (fun S' hp => ?_)
  exact kk S' hp
theorem bX11_setRoads_6 (B : Bd p s m args meth c cX11_setRoads 4 (wsOf yX11_setRoads cX11_setRoads 4 (some .int)) RX11 w (some .int) "setRoads") (hl : l.stackTraces = false) (ht : ∀ x ∈ c.exceptionTable.toList, False) {v0 : Nat} {v1 : Int32} {v2 : Int32} {px : String → St → Prop} {post : St → Prop} {k n : Nat} {px' : String → St → Prop} {Qc : Array Value → State → Outcome → State → Prop} (hc : ConXV l yX11_needRange (wsOf yX11_needRange cX11_needRange 3 none) rX11_needRange w S [.int v2, .int 5, .int 30] post px) (h1 : k + 1 ≤ rX11_setRoads.cells) (h2 : n + 6 ≤ rX11_setRoads.slots) (kx : ∀ (E : String) (S' : St), px E S' → px' E S') (kk : ∀ (S' : St), post S' → K p l e rX11_setRoads s m args below meth c 4 w (k + 1) (n + 6) (vx_MQ below Qc (XCs w px') args s rX11_setRoads.cells rX11_setRoads.slots (wA w)) S' 13 [(0, .ref v0), (1, .int v1), (2, .int v2)] []) : K p l e rX11_setRoads s m args below meth c 4 w k n (vx_MQ below Qc (XCs w px') args s rX11_setRoads.cells rX11_setRoads.slots (wA w)) S 6 [(0, .ref v0), (1, .int v1), (2, .int v2)] [] := by
  refine k_iload_n B 2 rfl rfl dX11_setRoads_6 ?_
  refine k_iconst (v := 5) B (by decide) dX11_setRoads_7 ?_
  refine k_bipush (v := 30) B (by decide) dX11_setRoads_8 ?_
  refine tcallS_V (st := []) B ht [.int v2, .int 5, .int 30] (hc) (va_cwS 3 B.1.2.2.2.2 (gS qlRX11_75 qsX11_needRange qzRX11 qcX11_needRange) rfl rfl rfl (by decide +kernel) ⟨Nat.le_of_ble_eq_true rfl, Nat.le_of_ble_eq_true rfl⟩) rfl (Nat.le_of_ble_eq_true rfl) rfl dX11_setRoads_10 ⟨h1, h2⟩ ⟨h1, h2⟩ (kx) (fun S' hp => ?_)
  exact kk S' hp
theorem bX11_setRoads_13 (B : Bd p s m args meth c cX11_setRoads 4 (wsOf yX11_setRoads cX11_setRoads 4 (some .int)) RX11 w (some .int) "setRoads") (hl : l.stackTraces = false) (ht : ∀ x ∈ c.exceptionTable.toList, False) {v0 : Nat} {v1 : Int32} {v2 : Int32} {x1 : Nat} {x2 : Nat} {x3 : Nat} {x4 : Nat} {post : Int32 → St → Prop} {k n : Nat} {px' : String → St → Prop} (h1 : kd S v0 = 13) (h2 : gP S 768 v0 = some x1) (h3 : kd S x1 = 10) (h4 : gP S 576 x1 = some x2) (h5 : kd S x2 = 21) (h6 : vp_in v1 (ln S x2)) (h7 : gP S 768 v0 = some x3) (h8 : kd S x3 = 10) (h9 : gP S 576 x3 = some x4) (h10 : kd S x4 = 21) (h11 : vp_in v1 (ln S x4)) (h12 : k ≤ rX11_setRoads.cells) (h13 : n ≤ rX11_setRoads.slots) (hq : post ((rI S x2) v1.toNatClampNeg) (sRI S x4 (va_up (rI S x4) v1.toNatClampNeg v2))) : K p l e rX11_setRoads s m args below meth c 4 w k n (vx_MQ below (va_Qi post (fun S' t => Hd w S' t.heap) (wA w)) (XCs w px') args s rX11_setRoads.cells rX11_setRoads.slots (wA w)) S 13 [(0, .ref v0), (1, .int v1), (2, .int v2)] [] := by
  refine k_aload_n B 0 rfl rfl dX11_setRoads_13 ?_
  refine k_getP (f := 768) (r := gP S 768 v0) B 12 0 rfl (by decide) rfl (by decide) rfl rfl (fun w h => in_of (uw_12 w h)) (in_of qfRX11_10) dX11_setRoads_14 h1 rfl ?_
  rw [h2]; change K _ _ _ _ _ _ _ _ _ _ _ _ _ _ _ _ _ _ (.ref x1 :: _)
  refine k_getP (f := 576) (r := gP S 576 x1) B 9 0 rfl (by decide) rfl (by decide) rfl rfl (fun w h => in_of (uw_9 w h)) (in_of qfRX11_79) dX11_setRoads_17 h3 rfl ?_
  rw [h4]; change K _ _ _ _ _ _ _ _ _ _ _ _ _ _ _ _ _ _ (.ref x2 :: _)
  refine k_iload_n B 1 rfl rfl dX11_setRoads_20 ?_
  refine k_iald (v := (rI S x2) v1.toNatClampNeg) B dX11_setRoads_21 h5 h6 rfl ?_
  refine k_istore_n (lst' := [(3, .int ((rI S x2) v1.toNatClampNeg)), (0, .ref v0), (1, .int v1), (2, .int v2)]) B rfl (by decide) rfl dX11_setRoads_22 ?_
  refine k_aload_n B 1 rfl rfl dX11_setRoads_23 ?_
  refine k_getP (f := 768) (r := gP S 768 v0) B 12 0 rfl (by decide) rfl (by decide) rfl rfl (fun w h => in_of (uw_12 w h)) (in_of qfRX11_10) dX11_setRoads_24 h1 rfl ?_
  rw [h7]; change K _ _ _ _ _ _ _ _ _ _ _ _ _ _ _ _ _ _ (.ref x3 :: _)
  refine k_getP (f := 576) (r := gP S 576 x3) B 9 0 rfl (by decide) rfl (by decide) rfl rfl (fun w h => in_of (uw_9 w h)) (in_of qfRX11_79) dX11_setRoads_27 h8 rfl ?_
  rw [h9]; change K _ _ _ _ _ _ _ _ _ _ _ _ _ _ _ _ _ _ (.ref x4 :: _)
  refine k_iload_n B 2 rfl rfl dX11_setRoads_30 ?_
  refine k_iload_n B 3 rfl rfl dX11_setRoads_31 ?_
  refine k_iast (g := rI S x4) (S' := sRI S x4 (va_up (rI S x4) v1.toNatClampNeg v2)) B dX11_setRoads_32 h10 h11 rfl rfl ?_
  refine k_iload_n B 0 rfl rfl dX11_setRoads_33 ?_
  exact k_xret_I h12 h13 (ret_I B rfl dX11_setRoads_34 (hq))
theorem bX11_setDepot_0 (B : Bd p s m args meth c cX11_setDepot 4 (wsOf yX11_setDepot cX11_setDepot 4 (some .int)) RX11 w (some .int) "setDepot") (hl : l.stackTraces = false) (ht : ∀ x ∈ c.exceptionTable.toList, False) {v0 : Nat} {v1 : Int32} {v2 : Int32} {px : String → St → Prop} {post : St → Prop} {k n : Nat} {px' : String → St → Prop} {Qc : Array Value → State → Outcome → State → Prop} (hc : ConXV l yX11_needPlace (wsOf yX11_needPlace cX11_needPlace 2 none) rX11_needPlace w S [.int v1, .int v2] post px) (h1 : k + 2 ≤ rX11_setDepot.cells) (h2 : n + 12 ≤ rX11_setDepot.slots) (kx : ∀ (E : String) (S' : St), px E S' → px' E S') (kk : ∀ (S' : St), post S' → K p l e rX11_setDepot s m args below meth c 4 w (k + 2) (n + 12) (vx_MQ below Qc (XCs w px') args s rX11_setDepot.cells rX11_setDepot.slots (wA w)) S' 5 [(0, .ref v0), (1, .int v1), (2, .int v2)] []) : K p l e rX11_setDepot s m args below meth c 4 w k n (vx_MQ below Qc (XCs w px') args s rX11_setDepot.cells rX11_setDepot.slots (wA w)) S 0 [(0, .ref v0), (1, .int v1), (2, .int v2)] [] := by
  refine k_iload_n B 1 rfl rfl dX11_setDepot_0 ?_
  refine k_iload_n B 2 rfl rfl dX11_setDepot_1 ?_
  refine tcallS_V (st := []) B ht [.int v1, .int v2] (hc) (va_cwS 2 B.1.2.2.2.2 (gS qlRX11_83 qsX11_needPlace qzRX11 qcX11_needPlace) rfl rfl rfl (by decide +kernel) ⟨Nat.le_of_ble_eq_true rfl, Nat.le_of_ble_eq_true rfl⟩) rfl (Nat.le_of_ble_eq_true rfl) rfl dX11_setDepot_2 ⟨h1, h2⟩ ⟨h1, h2⟩ (kx) (fun S' hp => ?_)
  exact kk S' hp
theorem bX11_setDepot_5 (B : Bd p s m args meth c cX11_setDepot 4 (wsOf yX11_setDepot cX11_setDepot 4 (some .int)) RX11 w (some .int) "setDepot") (hl : l.stackTraces = false) (ht : ∀ x ∈ c.exceptionTable.toList, False) {v0 : Nat} {v1 : Int32} {v2 : Int32} {x1 : Nat} {x2 : Nat} {x3 : Nat} {k n : Nat} {px' : String → St → Prop} {Qc : Array Value → State → Outcome → State → Prop} (h1 : kd S v0 = 13) (h2 : gP S 768 v0 = some x1) (h3 : kd S x1 = 10) (h4 : gP S 577 x1 = some x2) (h5 : gP S 768 v0 = some x3) (h6 : k + 1 ≤ rX11_setDepot.cells) (h7 : n + 2 ≤ rX11_setDepot.slots) (kk : ∀ q17 : Nat, kd S q17 = 0 → K p l e rX11_setDepot s m args below meth c 4 w (k + 1) (n + 2) (vx_MQ below Qc (XCs w px') args s rX11_setDepot.cells rX11_setDepot.slots (wA w)) (nw S q17 6 0) 20 [(1, .int v1), (2, .int v2), (3, .ref x2)] [.ref q17, .ref x3]) : K p l e rX11_setDepot s m args below meth c 4 w k n (vx_MQ below Qc (XCs w px') args s rX11_setDepot.cells rX11_setDepot.slots (wA w)) S 5 [(0, .ref v0), (1, .int v1), (2, .int v2)] [] := by
  refine k_aload_n B 0 rfl rfl dX11_setDepot_5 ?_
  refine k_getP (f := 768) (r := gP S 768 v0) B 12 0 rfl (by decide) rfl (by decide) rfl rfl (fun w h => in_of (uw_12 w h)) (in_of qfRX11_10) dX11_setDepot_6 h1 rfl ?_
  rw [h2]; change K _ _ _ _ _ _ _ _ _ _ _ _ _ _ _ _ _ _ (.ref x1 :: _)
  refine k_getP (f := 577) (r := gP S 577 x1) B 9 1 rfl (by decide) rfl (by decide) rfl rfl (fun w h => in_of (uw_9 w h)) (in_of qfRX11_86) dX11_setDepot_9 h3 rfl ?_
  rw [h4]; change K _ _ _ _ _ _ _ _ _ _ _ _ _ _ _ _ _ _ (.ref x2 :: _)
  refine k_astore_n (lst' := [(3, .ref x2), (0, .ref v0), (1, .int v1), (2, .int v2)]) B rfl (by decide) rfl dX11_setDepot_12 ?_
  refine k_aload_n B 1 rfl rfl dX11_setDepot_13 ?_
  refine k_getP (f := 768) (r := gP S 768 v0) B 12 0 rfl (by decide) rfl (by decide) rfl rfl (fun w h => in_of (uw_12 w h)) (in_of qfRX11_10) dX11_setDepot_14 h1 rfl ?_
  rw [h5]; change K _ _ _ _ _ _ _ _ _ _ _ _ _ _ _ _ _ _ (.ref x3 :: _)
  refine k_new B 5 rfl rfl (by decide) tyX4 tyX4_ok (by decide +kernel) (fun w h => in_of (uw_5 w h)) (in_of qkRX11_90) (in_of qn5) (in_of qzRX4) h6 h7 dX11_setDepot_17 (fun q17 f17 => ?_)
  refine k_sub [2, 3, 0] rfl ?_
  exact kk q17 f17
theorem bX11_setDepot_20 (B : Bd p s m args meth c cX11_setDepot 4 (wsOf yX11_setDepot cX11_setDepot 4 (some .int)) RX11 w (some .int) "setDepot") (hl : l.stackTraces = false) (ht : ∀ x ∈ c.exceptionTable.toList, False) {v1 : Int32} {v2 : Int32} {v3 : Nat} {t0 : Nat} {t1 : Nat} {post : St → Prop} {k n : Nat} {px' : String → St → Prop} {Qc : Array Value → State → Outcome → State → Prop} (hc : ConV l yX4_init (wsOf yX4_init cX4_init 3 none) rX4_init w S [.ref t1, .int v1, .int v2] post) (h1 : k + 0 ≤ rX11_setDepot.cells) (h2 : n + 0 ≤ rX11_setDepot.slots) (kk : ∀ (S' : St), post S' → K p l e rX11_setDepot s m args below meth c 4 w k n (vx_MQ below Qc (XCs w px') args s rX11_setDepot.cells rX11_setDepot.slots (wA w)) S' 26 [(3, .ref v3)] [.ref t1, .ref t0]) : K p l e rX11_setDepot s m args below meth c 4 w k n (vx_MQ below Qc (XCs w px') args s rX11_setDepot.cells rX11_setDepot.slots (wA w)) S 20 [(1, .int v1), (2, .int v2), (3, .ref v3)] [.ref t1, .ref t0] := by
  refine k_dup B rfl dX11_setDepot_20 ?_
  refine k_iload_n B 0 rfl rfl dX11_setDepot_21 ?_
  refine k_iload_n B 1 rfl rfl dX11_setDepot_22 ?_
  refine callC_V (st := [.ref t1, .ref t0]) B [.int v1, .int v2] (hc) (cwI 2 B.1.2.2.2.2 (gB qcX4_init) rfl rfl rfl (B.1.2.2.2.2 _ (in_of qzRX4)) (B.1.2.2.2.2 _ (in_of qlRX11_92)) (B.1.2.2.2.2 _ (in_of qiX4_init)) rfl (by decide +kernel) ⟨Nat.le_of_ble_eq_true rfl, Nat.le_of_ble_eq_true rfl⟩) rfl (Nat.le_of_ble_eq_true rfl) rfl dX11_setDepot_23 ⟨h1, h2⟩ (fun S' hp => ?_)
  refine k_sub [2] rfl ?_
  exact kk S' hp
theorem bX11_setDepot_26 (B : Bd p s m args meth c cX11_setDepot 4 (wsOf yX11_setDepot cX11_setDepot 4 (some .int)) RX11 w (some .int) "setDepot") (hl : l.stackTraces = false) (ht : ∀ x ∈ c.exceptionTable.toList, False) {v3 : Nat} {t0 : Nat} {t1 : Nat} {post : Int32 → St → Prop} {k n : Nat} {px' : String → St → Prop} (h1 : kd S t0 = 10) (h2 : kd S v3 = 6) (h3 : k ≤ rX11_setDepot.cells) (h4 : n ≤ rX11_setDepot.slots) (hq : post ((100 * (gI S 320 v3)) + (gI S 321 v3)) (sP S 577 t0 (some t1))) : K p l e rX11_setDepot s m args below meth c 4 w k n (vx_MQ below (va_Qi post (fun S' t => Hd w S' t.heap) (wA w)) (XCs w px') args s rX11_setDepot.cells rX11_setDepot.slots (wA w)) S 26 [(3, .ref v3)] [.ref t1, .ref t0] := by
  refine k_putP (f := 577) (v := some t1) B 9 1 rfl (by decide) rfl (by decide) rfl rfl (fun w h => in_of (uw_9 w h)) (in_of qfRX11_86) tyX8 tyX8_ok nmX8 rfl (tyX8_ok 1 (by decide)) rfl rfl dX11_setDepot_26 h1 ?_
  refine k_bipush (v := 100) B (by decide) dX11_setDepot_29 ?_
  refine k_aload_n B 0 rfl rfl dX11_setDepot_31 ?_
  refine k_getI (f := 320) (v := gI S 320 v3) B 5 0 rfl (by decide) rfl (by decide) rfl rfl (fun w h => in_of (uw_5 w h)) (in_of qfRX11_94) dX11_setDepot_32 h2 rfl ?_
  refine k_imul B dX11_setDepot_35 ?_
  refine k_aload_n B 0 rfl rfl dX11_setDepot_36 ?_
  refine k_getI (f := 321) (v := gI S 321 v3) B 5 1 rfl (by decide) rfl (by decide) rfl rfl (fun w h => in_of (uw_5 w h)) (in_of qfRX11_97) dX11_setDepot_37 h2 rfl ?_
  refine k_iadd B dX11_setDepot_40 ?_
  exact k_xret_I h3 h4 (ret_I B rfl dX11_setDepot_41 (hq))
theorem bX11_addHome_0 (B : Bd p s m args meth c cX11_addHome 4 (wsOf yX11_addHome cX11_addHome 4 (some .int)) RX11 w (some .int) "addHome") (hl : l.stackTraces = false) (ht : ∀ x ∈ c.exceptionTable.toList, False) {v0 : Nat} {v1 : Int32} {v2 : Int32} {v3 : Int32} {px : String → St → Prop} {post : St → Prop} {k n : Nat} {px' : String → St → Prop} {Qc : Array Value → State → Outcome → State → Prop} (hc : ConXV l yX11_needPlace (wsOf yX11_needPlace cX11_needPlace 2 none) rX11_needPlace w S [.int v1, .int v2] post px) (h1 : k + 2 ≤ rX11_addHome.cells) (h2 : n + 12 ≤ rX11_addHome.slots) (kx : ∀ (E : String) (S' : St), px E S' → px' E S') (kk : ∀ (S' : St), post S' → K p l e rX11_addHome s m args below meth c 4 w (k + 2) (n + 12) (vx_MQ below Qc (XCs w px') args s rX11_addHome.cells rX11_addHome.slots (wA w)) S' 5 [(0, .ref v0), (1, .int v1), (2, .int v2), (3, .int v3)] []) : K p l e rX11_addHome s m args below meth c 4 w k n (vx_MQ below Qc (XCs w px') args s rX11_addHome.cells rX11_addHome.slots (wA w)) S 0 [(0, .ref v0), (1, .int v1), (2, .int v2), (3, .int v3)] [] := by
  refine k_iload_n B 1 rfl rfl dX11_addHome_0 ?_
  refine k_iload_n B 2 rfl rfl dX11_addHome_1 ?_
  refine tcallS_V (st := []) B ht [.int v1, .int v2] (hc) (va_cwS 2 B.1.2.2.2.2 (gS qlRX11_83 qsX11_needPlace qzRX11 qcX11_needPlace) rfl rfl rfl (by decide +kernel) ⟨Nat.le_of_ble_eq_true rfl, Nat.le_of_ble_eq_true rfl⟩) rfl (Nat.le_of_ble_eq_true rfl) rfl dX11_addHome_2 ⟨h1, h2⟩ ⟨h1, h2⟩ (kx) (fun S' hp => ?_)
  exact kk S' hp
theorem bX11_addHome_5 (B : Bd p s m args meth c cX11_addHome 4 (wsOf yX11_addHome cX11_addHome 4 (some .int)) RX11 w (some .int) "addHome") (hl : l.stackTraces = false) (ht : ∀ x ∈ c.exceptionTable.toList, False) {v0 : Nat} {v1 : Int32} {v2 : Int32} {v3 : Int32} {px : String → St → Prop} {post : St → Prop} {k n : Nat} {px' : String → St → Prop} {Qc : Array Value → State → Outcome → State → Prop} (hc : ConXV l yX11_needRange (wsOf yX11_needRange cX11_needRange 3 none) rX11_needRange w S [.int v3, .int 0, .int 16777215] post px) (h1 : k + 1 ≤ rX11_addHome.cells) (h2 : n + 6 ≤ rX11_addHome.slots) (kx : ∀ (E : String) (S' : St), px E S' → px' E S') (kk : ∀ (S' : St), post S' → K p l e rX11_addHome s m args below meth c 4 w (k + 1) (n + 6) (vx_MQ below Qc (XCs w px') args s rX11_addHome.cells rX11_addHome.slots (wA w)) S' 12 [(0, .ref v0), (1, .int v1), (2, .int v2), (3, .int v3)] []) : K p l e rX11_addHome s m args below meth c 4 w k n (vx_MQ below Qc (XCs w px') args s rX11_addHome.cells rX11_addHome.slots (wA w)) S 5 [(0, .ref v0), (1, .int v1), (2, .int v2), (3, .int v3)] [] := by
  refine k_iload_n B 3 rfl rfl dX11_addHome_5 ?_
  refine k_iconst (v := 0) B (by decide) dX11_addHome_6 ?_
  refine k_ldc (v := 16777215) B (in_of qtRX11_100) dX11_addHome_7 ?_
  refine tcallS_V (st := []) B ht [.int v3, .int 0, .int 16777215] (hc) (va_cwS 3 B.1.2.2.2.2 (gS qlRX11_75 qsX11_needRange qzRX11 qcX11_needRange) rfl rfl rfl (by decide +kernel) ⟨Nat.le_of_ble_eq_true rfl, Nat.le_of_ble_eq_true rfl⟩) rfl (Nat.le_of_ble_eq_true rfl) rfl dX11_addHome_9 ⟨h1, h2⟩ ⟨h1, h2⟩ (kx) (fun S' hp => ?_)
  exact kk S' hp
theorem bX11_addHome_12 (B : Bd p s m args meth c cX11_addHome 4 (wsOf yX11_addHome cX11_addHome 4 (some .int)) RX11 w (some .int) "addHome") (hl : l.stackTraces = false) (ht : ∀ x ∈ c.exceptionTable.toList, False) {v0 : Nat} {v1 : Int32} {v2 : Int32} {v3 : Int32} {x1 : Nat} {post : Int32 → St → Prop} {k n : Nat} {px' : String → St → Prop} {Qc : Array Value → State → Outcome → State → Prop} (h1 : kd S v0 = 13) (h2 : gP S 769 v0 = some x1) (hc : ConI l yJx4a65c_size_8abf5 (wsOf yJx4a65c_size_8abf5 cJx4a65c_size_8abf5 1 (some .int)) rJx4a65c_size_8abf5 w S [.ref x1] post) (h3 : k + 0 ≤ rX11_addHome.cells) (h4 : n + 0 ≤ rX11_addHome.slots) (h5 : kd S x1 = 1) (kk : ∀ (r : Int32) (S' : St), post r S' → K p l e rX11_addHome s m args below meth c 4 w k n (vx_MQ below Qc (XCs w px') args s rX11_addHome.cells rX11_addHome.slots (wA w)) S' 19 [(0, .ref v0), (1, .int v1), (2, .int v2), (3, .int v3)] [.int r]) : K p l e rX11_addHome s m args below meth c 4 w k n (vx_MQ below Qc (XCs w px') args s rX11_addHome.cells rX11_addHome.slots (wA w)) S 12 [(0, .ref v0), (1, .int v1), (2, .int v2), (3, .int v3)] [] := by
  refine k_aload_n B 0 rfl rfl dX11_addHome_12 ?_
  refine k_getP (f := 769) (r := gP S 769 v0) B 12 1 rfl (by decide) rfl (by decide) rfl rfl (fun w h => in_of (uw_12 w h)) (in_of qfRX11_19) dX11_addHome_13 h1 rfl ?_
  rw [h2]; change K _ _ _ _ _ _ _ _ _ _ _ _ _ _ _ _ _ _ (.ref x1 :: _)
  refine callV_I (st := []) B [] (hc) (cwV 0 B.1.2.2.2.2 (gV qlRX11_101 qiJx4a65c_size_8abf5 qeJx4a65c_size_8abf5 qzRJx4a65c qcJx4a65c_size_8abf5) rfl rfl rfl (by decide +kernel) ⟨Nat.le_of_ble_eq_true rfl, Nat.le_of_ble_eq_true rfl⟩) rfl rfl (by decide) h5 (Nat.le_of_ble_eq_true rfl) rfl dX11_addHome_16 ⟨h3, h4⟩ (fun r S' hp => ?_)
  exact kk r S' hp
theorem bX11_addHome_19 (B : Bd p s m args meth c cX11_addHome 4 (wsOf yX11_addHome cX11_addHome 4 (some .int)) RX11 w (some .int) "addHome") (hl : l.stackTraces = false) (ht : ∀ x ∈ c.exceptionTable.toList, False) {v0 : Nat} {v1 : Int32} {v2 : Int32} {v3 : Int32} {t0 : Int32} {px : String → St → Prop} {post : St → Prop} {k n : Nat} {px' : String → St → Prop} {Qc : Array Value → State → Outcome → State → Prop} (hc : ConXV l yX11_needSpace (wsOf yX11_needSpace cX11_needSpace 2 none) rX11_needSpace w S [.int t0, .int 16] post px) (h1 : k + 1 ≤ rX11_addHome.cells) (h2 : n + 6 ≤ rX11_addHome.slots) (kx : ∀ (E : String) (S' : St), px E S' → px' E S') (kk : ∀ (S' : St), post S' → K p l e rX11_addHome s m args below meth c 4 w (k + 1) (n + 6) (vx_MQ below Qc (XCs w px') args s rX11_addHome.cells rX11_addHome.slots (wA w)) S' 24 [(0, .ref v0), (1, .int v1), (2, .int v2), (3, .int v3)] []) : K p l e rX11_addHome s m args below meth c 4 w k n (vx_MQ below Qc (XCs w px') args s rX11_addHome.cells rX11_addHome.slots (wA w)) S 19 [(0, .ref v0), (1, .int v1), (2, .int v2), (3, .int v3)] [.int t0] := by
  refine k_bipush (v := 16) B (by decide) dX11_addHome_19 ?_
  refine tcallS_V (st := []) B ht [.int t0, .int 16] (hc) (va_cwS 2 B.1.2.2.2.2 (gS qlRX11_105 qsX11_needSpace qzRX11 qcX11_needSpace) rfl rfl rfl (by decide +kernel) ⟨Nat.le_of_ble_eq_true rfl, Nat.le_of_ble_eq_true rfl⟩) rfl (Nat.le_of_ble_eq_true rfl) rfl dX11_addHome_21 ⟨h1, h2⟩ ⟨h1, h2⟩ (kx) (fun S' hp => ?_)
  exact kk S' hp
theorem bX11_addHome_24 (B : Bd p s m args meth c cX11_addHome 4 (wsOf yX11_addHome cX11_addHome 4 (some .int)) RX11 w (some .int) "addHome") (hl : l.stackTraces = false) (ht : ∀ x ∈ c.exceptionTable.toList, False) {v0 : Nat} {v1 : Int32} {v2 : Int32} {v3 : Int32} {x1 : Nat} {k n : Nat} {px' : String → St → Prop} {Qc : Array Value → State → Outcome → State → Prop} (h1 : kd S v0 = 13) (h2 : gP S 769 v0 = some x1) (h3 : k + 1 ≤ rX11_addHome.cells) (h4 : n + 4 ≤ rX11_addHome.slots) (kk : ∀ q28 : Nat, kd S q28 = 0 → K p l e rX11_addHome s m args below meth c 4 w (k + 1) (n + 4) (vx_MQ below Qc (XCs w px') args s rX11_addHome.cells rX11_addHome.slots (wA w)) (nw S q28 3 0) 31 [(0, .ref v0), (1, .int v1), (2, .int v2), (3, .int v3)] [.ref q28, .ref x1]) : K p l e rX11_addHome s m args below meth c 4 w k n (vx_MQ below Qc (XCs w px') args s rX11_addHome.cells rX11_addHome.slots (wA w)) S 24 [(0, .ref v0), (1, .int v1), (2, .int v2), (3, .int v3)] [] := by
  refine k_aload_n B 0 rfl rfl dX11_addHome_24 ?_
  refine k_getP (f := 769) (r := gP S 769 v0) B 12 1 rfl (by decide) rfl (by decide) rfl rfl (fun w h => in_of (uw_12 w h)) (in_of qfRX11_19) dX11_addHome_25 h1 rfl ?_
  rw [h2]; change K _ _ _ _ _ _ _ _ _ _ _ _ _ _ _ _ _ _ (.ref x1 :: _)
  refine k_new B 2 rfl rfl (by decide) tyX1 tyX1_ok (by decide +kernel) (fun w h => in_of (uw_2 w h)) (in_of qkRX11_108) (in_of qn2) (in_of qzRX1) h3 h4 dX11_addHome_28 (fun q28 f28 => ?_)
  exact kk q28 f28
theorem bX11_addHome_31 (B : Bd p s m args meth c cX11_addHome 4 (wsOf yX11_addHome cX11_addHome 4 (some .int)) RX11 w (some .int) "addHome") (hl : l.stackTraces = false) (ht : ∀ x ∈ c.exceptionTable.toList, False) {v0 : Nat} {v1 : Int32} {v2 : Int32} {v3 : Int32} {t0 : Nat} {t1 : Nat} {k n : Nat} {px' : String → St → Prop} {Qc : Array Value → State → Outcome → State → Prop} (h1 : k + 1 ≤ rX11_addHome.cells) (h2 : n + 2 ≤ rX11_addHome.slots) (kk : ∀ q32 : Nat, kd S q32 = 0 → K p l e rX11_addHome s m args below meth c 4 w (k + 1) (n + 2) (vx_MQ below Qc (XCs w px') args s rX11_addHome.cells rX11_addHome.slots (wA w)) (nw S q32 6 0) 35 [(0, .ref v0), (1, .int v1), (2, .int v2), (3, .int v3)] [.ref q32, .ref t1, .ref t1, .ref t0]) : K p l e rX11_addHome s m args below meth c 4 w k n (vx_MQ below Qc (XCs w px') args s rX11_addHome.cells rX11_addHome.slots (wA w)) S 31 [(0, .ref v0), (1, .int v1), (2, .int v2), (3, .int v3)] [.ref t1, .ref t0] := by
  refine k_dup B rfl dX11_addHome_31 ?_
  refine k_new B 5 rfl rfl (by decide) tyX4 tyX4_ok (by decide +kernel) (fun w h => in_of (uw_5 w h)) (in_of qkRX11_90) (in_of qn5) (in_of qzRX4) h1 h2 dX11_addHome_32 (fun q32 f32 => ?_)
  exact kk q32 f32
theorem bX11_addHome_35 (B : Bd p s m args meth c cX11_addHome 4 (wsOf yX11_addHome cX11_addHome 4 (some .int)) RX11 w (some .int) "addHome") (hl : l.stackTraces = false) (ht : ∀ x ∈ c.exceptionTable.toList, False) {v0 : Nat} {v1 : Int32} {v2 : Int32} {v3 : Int32} {t0 : Nat} {t1 : Nat} {t2 : Nat} {t3 : Nat} {post : St → Prop} {k n : Nat} {px' : String → St → Prop} {Qc : Array Value → State → Outcome → State → Prop} (hc : ConV l yX4_init (wsOf yX4_init cX4_init 3 none) rX4_init w S [.ref t3, .int v1, .int v2] post) (h1 : k + 0 ≤ rX11_addHome.cells) (h2 : n + 0 ≤ rX11_addHome.slots) (kk : ∀ (S' : St), post S' → K p l e rX11_addHome s m args below meth c 4 w k n (vx_MQ below Qc (XCs w px') args s rX11_addHome.cells rX11_addHome.slots (wA w)) S' 41 [(0, .ref v0), (3, .int v3)] [.ref t3, .ref t2, .ref t1, .ref t0]) : K p l e rX11_addHome s m args below meth c 4 w k n (vx_MQ below Qc (XCs w px') args s rX11_addHome.cells rX11_addHome.slots (wA w)) S 35 [(0, .ref v0), (1, .int v1), (2, .int v2), (3, .int v3)] [.ref t3, .ref t2, .ref t1, .ref t0] := by
  refine k_dup B rfl dX11_addHome_35 ?_
  refine k_iload_n B 1 rfl rfl dX11_addHome_36 ?_
  refine k_iload_n B 2 rfl rfl dX11_addHome_37 ?_
  refine callC_V (st := [.ref t3, .ref t2, .ref t1, .ref t0]) B [.int v1, .int v2] (hc) (cwI 2 B.1.2.2.2.2 (gB qcX4_init) rfl rfl rfl (B.1.2.2.2.2 _ (in_of qzRX4)) (B.1.2.2.2.2 _ (in_of qlRX11_92)) (B.1.2.2.2.2 _ (in_of qiX4_init)) rfl (by decide +kernel) ⟨Nat.le_of_ble_eq_true rfl, Nat.le_of_ble_eq_true rfl⟩) rfl (Nat.le_of_ble_eq_true rfl) rfl dX11_addHome_38 ⟨h1, h2⟩ (fun S' hp => ?_)
  refine k_sub [0, 3] rfl ?_
  exact kk S' hp
theorem bX11_addHome_41 (B : Bd p s m args meth c cX11_addHome 4 (wsOf yX11_addHome cX11_addHome 4 (some .int)) RX11 w (some .int) "addHome") (hl : l.stackTraces = false) (ht : ∀ x ∈ c.exceptionTable.toList, False) {v0 : Nat} {v3 : Int32} {t0 : Nat} {t1 : Nat} {t2 : Nat} {t3 : Nat} {post : St → Prop} {k n : Nat} {px' : String → St → Prop} {Qc : Array Value → State → Outcome → State → Prop} (hc : ConV l yX1_init (wsOf yX1_init cX1_init 3 none) rX1_init w S [.ref t2, .ref t3, .int v3] post) (h1 : k + 1 ≤ rX11_addHome.cells) (h2 : n + 3 ≤ rX11_addHome.slots) (kk : ∀ (S' : St), post S' → K p l e rX11_addHome s m args below meth c 4 w (k + 1) (n + 3) (vx_MQ below Qc (XCs w px') args s rX11_addHome.cells rX11_addHome.slots (wA w)) S' 45 [(0, .ref v0)] [.ref t1, .ref t0]) : K p l e rX11_addHome s m args below meth c 4 w k n (vx_MQ below Qc (XCs w px') args s rX11_addHome.cells rX11_addHome.slots (wA w)) S 41 [(0, .ref v0), (3, .int v3)] [.ref t3, .ref t2, .ref t1, .ref t0] := by
  refine k_iload_n B 1 rfl rfl dX11_addHome_41 ?_
  refine callC_V (st := [.ref t1, .ref t0]) B [.ref t3, .int v3] (hc) (cwI 2 B.1.2.2.2.2 (gB qcX1_init) rfl rfl rfl (B.1.2.2.2.2 _ (in_of qzRX1)) (B.1.2.2.2.2 _ (in_of qlRX11_110)) (B.1.2.2.2.2 _ (in_of qiX1_init)) rfl (by decide +kernel) ⟨Nat.le_of_ble_eq_true rfl, Nat.le_of_ble_eq_true rfl⟩) rfl (Nat.le_of_ble_eq_true rfl) rfl dX11_addHome_42 ⟨h1, h2⟩ (fun S' hp => ?_)
  refine k_sub [0] rfl ?_
  exact kk S' hp
theorem bX11_addHome_45 (B : Bd p s m args meth c cX11_addHome 4 (wsOf yX11_addHome cX11_addHome 4 (some .int)) RX11 w (some .int) "addHome") (hl : l.stackTraces = false) (ht : ∀ x ∈ c.exceptionTable.toList, False) {v0 : Nat} {t0 : Nat} {t1 : Nat} {post : Int32 → St → Prop} {k n : Nat} {px' : String → St → Prop} {Qc : Array Value → State → Outcome → State → Prop} (hc : ConI l yJx4a65c_add_9ea2d (wsOf yJx4a65c_add_9ea2d cJx4a65c_add_9ea2d 2 (some .boolean)) rJx4a65c_add_9ea2d w S [.ref t0, .ref t1] post) (h1 : k + 1 ≤ rX11_addHome.cells) (h2 : n + 40 ≤ rX11_addHome.slots) (h3 : kd S t0 = 1) (kk : ∀ (r : Int32) (S' : St), post r S' → K p l e rX11_addHome s m args below meth c 4 w (k + 1) (n + 40) (vx_MQ below Qc (XCs w px') args s rX11_addHome.cells rX11_addHome.slots (wA w)) S' 48 [(0, .ref v0)] [.int r]) : K p l e rX11_addHome s m args below meth c 4 w k n (vx_MQ below Qc (XCs w px') args s rX11_addHome.cells rX11_addHome.slots (wA w)) S 45 [(0, .ref v0)] [.ref t1, .ref t0] := by
  refine callV_I (st := []) B [.ref t1] (hc) (cwV 1 B.1.2.2.2.2 (gV qlRX11_113 qiJx4a65c_add_9ea2d qeJx4a65c_add_9ea2d qzRJx4a65c qcJx4a65c_add_9ea2d) rfl rfl rfl (by decide +kernel) ⟨Nat.le_of_ble_eq_true rfl, Nat.le_of_ble_eq_true rfl⟩) rfl rfl (by decide) h3 (Nat.le_of_ble_eq_true rfl) rfl dX11_addHome_45 ⟨h1, h2⟩ (fun r S' hp => ?_)
  exact kk r S' hp
theorem bX11_addHome_48 (B : Bd p s m args meth c cX11_addHome 4 (wsOf yX11_addHome cX11_addHome 4 (some .int)) RX11 w (some .int) "addHome") (hl : l.stackTraces = false) (ht : ∀ x ∈ c.exceptionTable.toList, False) {v0 : Nat} {t0 : Int32} {x1 : Nat} {post : Int32 → St → Prop} {k n : Nat} {px' : String → St → Prop} {Qc : Array Value → State → Outcome → State → Prop} (h1 : kd S v0 = 13) (h2 : gP S 769 v0 = some x1) (hc : ConI l yJx4a65c_size_8abf5 (wsOf yJx4a65c_size_8abf5 cJx4a65c_size_8abf5 1 (some .int)) rJx4a65c_size_8abf5 w S [.ref x1] post) (h3 : k + 0 ≤ rX11_addHome.cells) (h4 : n + 0 ≤ rX11_addHome.slots) (h5 : kd S x1 = 1) (kk : ∀ (r : Int32) (S' : St), post r S' → K p l e rX11_addHome s m args below meth c 4 w k n (vx_MQ below Qc (XCs w px') args s rX11_addHome.cells rX11_addHome.slots (wA w)) S' 56 [] [.int r]) : K p l e rX11_addHome s m args below meth c 4 w k n (vx_MQ below Qc (XCs w px') args s rX11_addHome.cells rX11_addHome.slots (wA w)) S 48 [(0, .ref v0)] [.int t0] := by
  refine k_pop B rfl dX11_addHome_48 ?_
  refine k_aload_n B 0 rfl rfl dX11_addHome_49 ?_
  refine k_getP (f := 769) (r := gP S 769 v0) B 12 1 rfl (by decide) rfl (by decide) rfl rfl (fun w h => in_of (uw_12 w h)) (in_of qfRX11_19) dX11_addHome_50 h1 rfl ?_
  rw [h2]; change K _ _ _ _ _ _ _ _ _ _ _ _ _ _ _ _ _ _ (.ref x1 :: _)
  refine callV_I (st := []) B [] (hc) (cwV 0 B.1.2.2.2.2 (gV qlRX11_101 qiJx4a65c_size_8abf5 qeJx4a65c_size_8abf5 qzRJx4a65c qcJx4a65c_size_8abf5) rfl rfl rfl (by decide +kernel) ⟨Nat.le_of_ble_eq_true rfl, Nat.le_of_ble_eq_true rfl⟩) rfl rfl (by decide) h5 (Nat.le_of_ble_eq_true rfl) rfl dX11_addHome_53 ⟨h3, h4⟩ (fun r S' hp => ?_)
  refine k_sub [] rfl ?_
  exact kk r S' hp
theorem bX11_addHome_56 (B : Bd p s m args meth c cX11_addHome 4 (wsOf yX11_addHome cX11_addHome 4 (some .int)) RX11 w (some .int) "addHome") (hl : l.stackTraces = false) (ht : ∀ x ∈ c.exceptionTable.toList, False) {t0 : Int32} {post : Int32 → St → Prop} {k n : Nat} {px' : String → St → Prop} (h1 : k ≤ rX11_addHome.cells) (h2 : n ≤ rX11_addHome.slots) (hq : post (t0 - 1) S) : K p l e rX11_addHome s m args below meth c 4 w k n (vx_MQ below (va_Qi post (fun S' t => Hd w S' t.heap) (wA w)) (XCs w px') args s rX11_addHome.cells rX11_addHome.slots (wA w)) S 56 [] [.int t0] := by
  refine k_iconst (v := 1) B (by decide) dX11_addHome_56 ?_
  refine k_isub B dX11_addHome_57 ?_
  exact k_xret_I h1 h2 (ret_I B rfl dX11_addHome_58 (hq))
theorem bX11_order_0 (B : Bd p s m args meth c cX11_order 5 (wsOf yX11_order cX11_order 5 (some .int)) RX11 w (some .int) "order") (hl : l.stackTraces = false) (ht : ∀ x ∈ c.exceptionTable.toList, False) {v0 : Nat} {v1 : Int32} {v2 : Int32} {v3 : Int32} {x1 : Nat} {post : Int32 → St → Prop} {k n : Nat} {px' : String → St → Prop} {Qc : Array Value → State → Outcome → State → Prop} (h1 : kd S v0 = 13) (h2 : gP S 769 v0 = some x1) (hc : ConI l yJx4a65c_size_8abf5 (wsOf yJx4a65c_size_8abf5 cJx4a65c_size_8abf5 1 (some .int)) rJx4a65c_size_8abf5 w S [.ref x1] post) (h3 : k + 0 ≤ rX11_order.cells) (h4 : n + 0 ≤ rX11_order.slots) (h5 : kd S x1 = 1) (kk : ∀ (r : Int32) (S' : St), post r S' → K p l e rX11_order s m args below meth c 5 w k n (vx_MQ below Qc (XCs w px') args s rX11_order.cells rX11_order.slots (wA w)) S' 8 [(0, .ref v0), (1, .int v1), (2, .int v2), (3, .int v3)] [.int r, .int v1]) : K p l e rX11_order s m args below meth c 5 w k n (vx_MQ below Qc (XCs w px') args s rX11_order.cells rX11_order.slots (wA w)) S 0 [(0, .ref v0), (1, .int v1), (2, .int v2), (3, .int v3)] [] := by
  refine k_iload_n B 1 rfl rfl dX11_order_0 ?_
  refine k_aload_n B 0 rfl rfl dX11_order_1 ?_
  refine k_getP (f := 769) (r := gP S 769 v0) B 12 1 rfl (by decide) rfl (by decide) rfl rfl (fun w h => in_of (uw_12 w h)) (in_of qfRX11_19) dX11_order_2 h1 rfl ?_
  rw [h2]; change K _ _ _ _ _ _ _ _ _ _ _ _ _ _ _ _ _ _ (.ref x1 :: _)
  refine callV_I (st := [.int v1]) B [] (hc) (cwV 0 B.1.2.2.2.2 (gV qlRX11_101 qiJx4a65c_size_8abf5 qeJx4a65c_size_8abf5 qzRJx4a65c qcJx4a65c_size_8abf5) rfl rfl rfl (by decide +kernel) ⟨Nat.le_of_ble_eq_true rfl, Nat.le_of_ble_eq_true rfl⟩) rfl rfl (by decide) h5 (Nat.le_of_ble_eq_true rfl) rfl dX11_order_5 ⟨h3, h4⟩ (fun r S' hp => ?_)
  exact kk r S' hp
theorem bX11_order_8 (B : Bd p s m args meth c cX11_order 5 (wsOf yX11_order cX11_order 5 (some .int)) RX11 w (some .int) "order") (hl : l.stackTraces = false) (ht : ∀ x ∈ c.exceptionTable.toList, False) {v0 : Nat} {v1 : Int32} {v2 : Int32} {v3 : Int32} {t0 : Int32} {t1 : Int32} {px : String → St → Prop} {post : St → Prop} {k n : Nat} {px' : String → St → Prop} {Qc : Array Value → State → Outcome → State → Prop} (hc : ConXV l yX11_needIndex (wsOf yX11_needIndex cX11_needIndex 2 none) rX11_needIndex w S [.int t0, .int t1] post px) (h1 : k + 1 ≤ rX11_order.cells) (h2 : n + 6 ≤ rX11_order.slots) (kx : ∀ (E : String) (S' : St), px E S' → px' E S') (kk : ∀ (S' : St), post S' → K p l e rX11_order s m args below meth c 5 w (k + 1) (n + 6) (vx_MQ below Qc (XCs w px') args s rX11_order.cells rX11_order.slots (wA w)) S' 11 [(0, .ref v0), (1, .int v1), (2, .int v2), (3, .int v3)] []) : K p l e rX11_order s m args below meth c 5 w k n (vx_MQ below Qc (XCs w px') args s rX11_order.cells rX11_order.slots (wA w)) S 8 [(0, .ref v0), (1, .int v1), (2, .int v2), (3, .int v3)] [.int t1, .int t0] := by
  refine tcallS_V (st := []) B ht [.int t0, .int t1] (hc) (va_cwS 2 B.1.2.2.2.2 (gS qlRX11_71 qsX11_needIndex qzRX11 qcX11_needIndex) rfl rfl rfl (by decide +kernel) ⟨Nat.le_of_ble_eq_true rfl, Nat.le_of_ble_eq_true rfl⟩) rfl (Nat.le_of_ble_eq_true rfl) rfl dX11_order_8 ⟨h1, h2⟩ ⟨h1, h2⟩ (kx) (fun S' hp => ?_)
  exact kk S' hp
theorem bX11_order_11 (B : Bd p s m args meth c cX11_order 5 (wsOf yX11_order cX11_order 5 (some .int)) RX11 w (some .int) "order") (hl : l.stackTraces = false) (ht : ∀ x ∈ c.exceptionTable.toList, False) {v0 : Nat} {v1 : Int32} {v2 : Int32} {v3 : Int32} {k n : Nat} {px' : String → St → Prop} {Qc : Array Value → State → Outcome → State → Prop}  (kt : v2 = 0 → K p l e rX11_order s m args below meth c 5 w k n (vx_MQ below Qc (XCs w px') args s rX11_order.cells rX11_order.slots (wA w)) S 26 [(0, .ref v0), (1, .int v1), (2, .int v2), (3, .int v3)] [.int v3]) (kf : ¬ v2 = 0 → K p l e rX11_order s m args below meth c 5 w k n (vx_MQ below Qc (XCs w px') args s rX11_order.cells rX11_order.slots (wA w)) S 16 [(0, .ref v0), (1, .int v1), (2, .int v2), (3, .int v3)] [.int v3]) : K p l e rX11_order s m args below meth c 5 w k n (vx_MQ below Qc (XCs w px') args s rX11_order.cells rX11_order.slots (wA w)) S 11 [(0, .ref v0), (1, .int v1), (2, .int v2), (3, .int v3)] [] := by
  refine k_iload_n B 3 rfl rfl dX11_order_11 ?_
  refine k_iload_n B 2 rfl rfl dX11_order_12 ?_
  refine k_if_eq (tgt := 26) B dX11_order_13 (by decide) (fun c => ?_) (fun c => ?_)
  · exact kt c
  · exact kf c
theorem bX11_order_16 (B : Bd p s m args meth c cX11_order 5 (wsOf yX11_order cX11_order 5 (some .int)) RX11 w (some .int) "order") (hl : l.stackTraces = false) (ht : ∀ x ∈ c.exceptionTable.toList, False) {v0 : Nat} {v1 : Int32} {v2 : Int32} {v3 : Int32} {t0 : Int32} {x1 : Nat} {post : Int32 → St → Prop} {k n : Nat} {px' : String → St → Prop} {Qc : Array Value → State → Outcome → State → Prop} (h1 : kd S v0 = 13) (h2 : gP S 770 v0 = some x1) (hc : ConI l yJx4a65c_size_8abf5 (wsOf yJx4a65c_size_8abf5 cJx4a65c_size_8abf5 1 (some .int)) rJx4a65c_size_8abf5 w S [.ref x1] post) (h3 : k + 0 ≤ rX11_order.cells) (h4 : n + 0 ≤ rX11_order.slots) (h5 : kd S x1 = 1) (kk : ∀ (r : Int32) (S' : St), post r S' → K p l e rX11_order s m args below meth c 5 w k n (vx_MQ below Qc (XCs w px') args s rX11_order.cells rX11_order.slots (wA w)) S' 23 [(0, .ref v0), (1, .int v1), (2, .int v2), (3, .int v3)] [.int r, .int t0]) : K p l e rX11_order s m args below meth c 5 w k n (vx_MQ below Qc (XCs w px') args s rX11_order.cells rX11_order.slots (wA w)) S 16 [(0, .ref v0), (1, .int v1), (2, .int v2), (3, .int v3)] [.int t0] := by
  refine k_aload_n B 0 rfl rfl dX11_order_16 ?_
  refine k_getP (f := 770) (r := gP S 770 v0) B 12 2 rfl (by decide) rfl (by decide) rfl rfl (fun w h => in_of (uw_12 w h)) (in_of qfRX11_23) dX11_order_17 h1 rfl ?_
  rw [h2]; change K _ _ _ _ _ _ _ _ _ _ _ _ _ _ _ _ _ _ (.ref x1 :: _)
  refine callV_I (st := [.int t0]) B [] (hc) (cwV 0 B.1.2.2.2.2 (gV qlRX11_101 qiJx4a65c_size_8abf5 qeJx4a65c_size_8abf5 qzRJx4a65c qcJx4a65c_size_8abf5) rfl rfl rfl (by decide +kernel) ⟨Nat.le_of_ble_eq_true rfl, Nat.le_of_ble_eq_true rfl⟩) rfl rfl (by decide) h5 (Nat.le_of_ble_eq_true rfl) rfl dX11_order_20 ⟨h3, h4⟩ (fun r S' hp => ?_)
  exact kk r S' hp
theorem bX11_order_23 (B : Bd p s m args meth c cX11_order 5 (wsOf yX11_order cX11_order 5 (some .int)) RX11 w (some .int) "order") (hl : l.stackTraces = false) (ht : ∀ x ∈ c.exceptionTable.toList, False) {v0 : Nat} {v1 : Int32} {v2 : Int32} {v3 : Int32} {t0 : Int32} {t1 : Int32} {k n : Nat} {px' : String → St → Prop} {Qc : Array Value → State → Outcome → State → Prop}  (kk : K p l e rX11_order s m args below meth c 5 w k n (vx_MQ below Qc (XCs w px') args s rX11_order.cells rX11_order.slots (wA w)) S 33 [(0, .ref v0), (1, .int v1), (2, .int v2), (3, .int v3)] [.int t1, .int t0]) : K p l e rX11_order s m args below meth c 5 w k n (vx_MQ below Qc (XCs w px') args s rX11_order.cells rX11_order.slots (wA w)) S 23 [(0, .ref v0), (1, .int v1), (2, .int v2), (3, .int v3)] [.int t1, .int t0] := by
  refine k_goto (tgt := 33) B dX11_order_23 (by decide) ?_
  exact kk
theorem bX11_order_26 (B : Bd p s m args meth c cX11_order 5 (wsOf yX11_order cX11_order 5 (some .int)) RX11 w (some .int) "order") (hl : l.stackTraces = false) (ht : ∀ x ∈ c.exceptionTable.toList, False) {v0 : Nat} {v1 : Int32} {v2 : Int32} {v3 : Int32} {t0 : Int32} {x1 : Nat} {post : Int32 → St → Prop} {k n : Nat} {px' : String → St → Prop} {Qc : Array Value → State → Outcome → State → Prop} (h1 : kd S v0 = 13) (h2 : gP S 769 v0 = some x1) (hc : ConI l yJx4a65c_size_8abf5 (wsOf yJx4a65c_size_8abf5 cJx4a65c_size_8abf5 1 (some .int)) rJx4a65c_size_8abf5 w S [.ref x1] post) (h3 : k + 0 ≤ rX11_order.cells) (h4 : n + 0 ≤ rX11_order.slots) (h5 : kd S x1 = 1) (kk : ∀ (r : Int32) (S' : St), post r S' → K p l e rX11_order s m args below meth c 5 w k n (vx_MQ below Qc (XCs w px') args s rX11_order.cells rX11_order.slots (wA w)) S' 33 [(0, .ref v0), (1, .int v1), (2, .int v2), (3, .int v3)] [.int r, .int t0]) : K p l e rX11_order s m args below meth c 5 w k n (vx_MQ below Qc (XCs w px') args s rX11_order.cells rX11_order.slots (wA w)) S 26 [(0, .ref v0), (1, .int v1), (2, .int v2), (3, .int v3)] [.int t0] := by
  refine k_aload_n B 0 rfl rfl dX11_order_26 ?_
  refine k_getP (f := 769) (r := gP S 769 v0) B 12 1 rfl (by decide) rfl (by decide) rfl rfl (fun w h => in_of (uw_12 w h)) (in_of qfRX11_19) dX11_order_27 h1 rfl ?_
  rw [h2]; change K _ _ _ _ _ _ _ _ _ _ _ _ _ _ _ _ _ _ (.ref x1 :: _)
  refine callV_I (st := [.int t0]) B [] (hc) (cwV 0 B.1.2.2.2.2 (gV qlRX11_101 qiJx4a65c_size_8abf5 qeJx4a65c_size_8abf5 qzRJx4a65c qcJx4a65c_size_8abf5) rfl rfl rfl (by decide +kernel) ⟨Nat.le_of_ble_eq_true rfl, Nat.le_of_ble_eq_true rfl⟩) rfl rfl (by decide) h5 (Nat.le_of_ble_eq_true rfl) rfl dX11_order_30 ⟨h3, h4⟩ (fun r S' hp => ?_)
  exact kk r S' hp
theorem bX11_order_33 (B : Bd p s m args meth c cX11_order 5 (wsOf yX11_order cX11_order 5 (some .int)) RX11 w (some .int) "order") (hl : l.stackTraces = false) (ht : ∀ x ∈ c.exceptionTable.toList, False) {v0 : Nat} {v1 : Int32} {v2 : Int32} {v3 : Int32} {t0 : Int32} {t1 : Int32} {px : String → St → Prop} {post : St → Prop} {k n : Nat} {px' : String → St → Prop} {Qc : Array Value → State → Outcome → State → Prop} (hc : ConXV l yX11_needIndex (wsOf yX11_needIndex cX11_needIndex 2 none) rX11_needIndex w S [.int t0, .int t1] post px) (h1 : k + 1 ≤ rX11_order.cells) (h2 : n + 6 ≤ rX11_order.slots) (kx : ∀ (E : String) (S' : St), px E S' → px' E S') (kk : ∀ (S' : St), post S' → K p l e rX11_order s m args below meth c 5 w (k + 1) (n + 6) (vx_MQ below Qc (XCs w px') args s rX11_order.cells rX11_order.slots (wA w)) S' 36 [(0, .ref v0), (1, .int v1), (2, .int v2), (3, .int v3)] []) : K p l e rX11_order s m args below meth c 5 w k n (vx_MQ below Qc (XCs w px') args s rX11_order.cells rX11_order.slots (wA w)) S 33 [(0, .ref v0), (1, .int v1), (2, .int v2), (3, .int v3)] [.int t1, .int t0] := by
  refine tcallS_V (st := []) B ht [.int t0, .int t1] (hc) (va_cwS 2 B.1.2.2.2.2 (gS qlRX11_71 qsX11_needIndex qzRX11 qcX11_needIndex) rfl rfl rfl (by decide +kernel) ⟨Nat.le_of_ble_eq_true rfl, Nat.le_of_ble_eq_true rfl⟩) rfl (Nat.le_of_ble_eq_true rfl) rfl dX11_order_33 ⟨h1, h2⟩ ⟨h1, h2⟩ (kx) (fun S' hp => ?_)
  exact kk S' hp
theorem bX11_order_36 (B : Bd p s m args meth c cX11_order 5 (wsOf yX11_order cX11_order 5 (some .int)) RX11 w (some .int) "order") (hl : l.stackTraces = false) (ht : ∀ x ∈ c.exceptionTable.toList, False) {v0 : Nat} {v1 : Int32} {v2 : Int32} {v3 : Int32} {k n : Nat} {px' : String → St → Prop} {Qc : Array Value → State → Outcome → State → Prop}  (kt : ¬ v2 = 0 → K p l e rX11_order s m args below meth c 5 w k n (vx_MQ below Qc (XCs w px') args s rX11_order.cells rX11_order.slots (wA w)) S 55 [(0, .ref v0), (1, .int v1), (2, .int v2), (3, .int v3)] []) (kf : v2 = 0 → K p l e rX11_order s m args below meth c 5 w k n (vx_MQ below Qc (XCs w px') args s rX11_order.cells rX11_order.slots (wA w)) S 40 [(0, .ref v0), (1, .int v1), (2, .int v2), (3, .int v3)] []) : K p l e rX11_order s m args below meth c 5 w k n (vx_MQ below Qc (XCs w px') args s rX11_order.cells rX11_order.slots (wA w)) S 36 [(0, .ref v0), (1, .int v1), (2, .int v2), (3, .int v3)] [] := by
  refine k_iload_n B 2 rfl rfl dX11_order_36 ?_
  refine k_if_ne (tgt := 55) B dX11_order_37 (by decide) (fun c => ?_) (fun c => ?_)
  · exact kt c
  · exact kf c
theorem bX11_order_40 (B : Bd p s m args meth c cX11_order 5 (wsOf yX11_order cX11_order 5 (some .int)) RX11 w (some .int) "order") (hl : l.stackTraces = false) (ht : ∀ x ∈ c.exceptionTable.toList, False) {v0 : Nat} {v1 : Int32} {v2 : Int32} {v3 : Int32} {k n : Nat} {px' : String → St → Prop} {Qc : Array Value → State → Outcome → State → Prop}  (kt : ¬ v3 = v1 → K p l e rX11_order s m args below meth c 5 w k n (vx_MQ below Qc (XCs w px') args s rX11_order.cells rX11_order.slots (wA w)) S 55 [(0, .ref v0), (1, .int v1), (2, .int v2), (3, .int v3)] []) (kf : v3 = v1 → K p l e rX11_order s m args below meth c 5 w k n (vx_MQ below Qc (XCs w px') args s rX11_order.cells rX11_order.slots (wA w)) S 45 [] []) : K p l e rX11_order s m args below meth c 5 w k n (vx_MQ below Qc (XCs w px') args s rX11_order.cells rX11_order.slots (wA w)) S 40 [(0, .ref v0), (1, .int v1), (2, .int v2), (3, .int v3)] [] := by
  refine k_iload_n B 3 rfl rfl dX11_order_40 ?_
  refine k_iload_n B 1 rfl rfl dX11_order_41 ?_
  refine k_icmp_ne (tgt := 55) B dX11_order_42 (by decide) (fun c => ?_) (fun c => ?_)
  · exact kt c
  · refine k_sub [] rfl ?_
    exact kf c
theorem bX11_order_45 (B : Bd p s m args meth c cX11_order 5 (wsOf yX11_order cX11_order 5 (some .int)) RX11 w (some .int) "order") (hl : l.stackTraces = false) (ht : ∀ x ∈ c.exceptionTable.toList, False) {k n : Nat} {px' : String → St → Prop} {Qc : Array Value → State → Outcome → State → Prop} (h1 : k + 1 ≤ rX11_order.cells) (h2 : n + 6 ≤ rX11_order.slots) (hx : px' nIA S) : K p l e rX11_order s m args below meth c 5 w k n (vx_MQ below Qc (XCs w px') args s rX11_order.cells rX11_order.slots (wA w)) S 45 [] [] := by
  exact k_throwS B hl ht (cls := nIA) (in_of qkRX11_117) (in_of qz_nIA) (List.mem_of_getElem? (i := 0) rfl) (hat_of B (fun w h => in_of h) at1_nIA at2_nIA (List.mem_of_getElem? (i := 1) rfl)) at3_nIA at4_nIA dX11_order_45 dX11_order_48 dX11_order_49 dX11_order_51 dX11_order_54 (Nat.le_of_ble_eq_true rfl) (Nat.le_of_ble_eq_true rfl) h1 h2 h1 h2 (hx)
theorem bX11_order_55 (B : Bd p s m args meth c cX11_order 5 (wsOf yX11_order cX11_order 5 (some .int)) RX11 w (some .int) "order") (hl : l.stackTraces = false) (ht : ∀ x ∈ c.exceptionTable.toList, False) {v0 : Nat} {v1 : Int32} {v2 : Int32} {v3 : Int32} {x1 : Nat} {post : Nat → St → Prop} {k n : Nat} {px' : String → St → Prop} {Qc : Array Value → State → Outcome → State → Prop} (h1 : kd S v0 = 13) (h2 : gP S 769 v0 = some x1) (hc : ConR l yJx4a65c_get_915e3 (wsOf yJx4a65c_get_915e3 cJx4a65c_get_915e3 2 (some (.object "java/lang/Object"))) rJx4a65c_get_915e3 w S [.ref x1, .int v1] post) (h3 : k + 0 ≤ rX11_order.cells) (h4 : n + 0 ≤ rX11_order.slots) (h5 : kd S x1 = 1) (kk : ∀ (r : Nat) (S' : St), post r S' → K p l e rX11_order s m args below meth c 5 w k n (vx_MQ below Qc (XCs w px') args s rX11_order.cells rX11_order.slots (wA w)) S' 63 [(2, .int v2), (3, .int v3)] [.ref r]) : K p l e rX11_order s m args below meth c 5 w k n (vx_MQ below Qc (XCs w px') args s rX11_order.cells rX11_order.slots (wA w)) S 55 [(0, .ref v0), (1, .int v1), (2, .int v2), (3, .int v3)] [] := by
  refine k_aload_n B 0 rfl rfl dX11_order_55 ?_
  refine k_getP (f := 769) (r := gP S 769 v0) B 12 1 rfl (by decide) rfl (by decide) rfl rfl (fun w h => in_of (uw_12 w h)) (in_of qfRX11_19) dX11_order_56 h1 rfl ?_
  rw [h2]; change K _ _ _ _ _ _ _ _ _ _ _ _ _ _ _ _ _ _ (.ref x1 :: _)
  refine k_iload_n B 1 rfl rfl dX11_order_59 ?_
  refine callV_R (st := []) B [.int v1] (hc) (cwV 1 B.1.2.2.2.2 (gV qlRX11_124 qiJx4a65c_get_915e3 qeJx4a65c_get_915e3 qzRJx4a65c qcJx4a65c_get_915e3) rfl rfl rfl (by decide +kernel) ⟨Nat.le_of_ble_eq_true rfl, Nat.le_of_ble_eq_true rfl⟩) rfl rfl (by decide) h5 (Nat.le_of_ble_eq_true rfl) rfl dX11_order_60 ⟨h3, h4⟩ (fun r S' hp => ?_)
  refine k_sub [2, 3] rfl ?_
  exact kk r S' hp
theorem bX11_order_63 (B : Bd p s m args meth c cX11_order 5 (wsOf yX11_order cX11_order 5 (some .int)) RX11 w (some .int) "order") (hl : l.stackTraces = false) (ht : ∀ x ∈ c.exceptionTable.toList, False) {v2 : Int32} {v3 : Int32} {t0 : Nat} {px : String → St → Prop} {post : St → Prop} {k n : Nat} {px' : String → St → Prop} {Qc : Array Value → State → Outcome → State → Prop} (h1 : kd S t0 = 3) (hc : ConXV l yX11_needSpace (wsOf yX11_needSpace cX11_needSpace 2 none) rX11_needSpace w S [.int (gI S 131 t0), .int 3] post px) (h2 : k + 1 ≤ rX11_order.cells) (h3 : n + 6 ≤ rX11_order.slots) (kx : ∀ (E : String) (S' : St), px E S' → px' E S') (kk : ∀ (S' : St), post S' → K p l e rX11_order s m args below meth c 5 w (k + 1) (n + 6) (vx_MQ below Qc (XCs w px') args s rX11_order.cells rX11_order.slots (wA w)) S' 77 [(2, .int v2), (3, .int v3), (4, .ref t0)] []) : K p l e rX11_order s m args below meth c 5 w k n (vx_MQ below Qc (XCs w px') args s rX11_order.cells rX11_order.slots (wA w)) S 63 [(2, .int v2), (3, .int v3)] [.ref t0] := by
  refine k_cast B 2 rfl (by decide) (in_of qkRX11_108) dX11_order_63 h1 ?_
  refine k_astore (lst' := [(4, .ref t0), (2, .int v2), (3, .int v3)]) B (by decide) rfl dX11_order_66 ?_
  refine k_aload B 0 rfl dX11_order_68 ?_
  refine k_getI (f := 131) (v := gI S 131 t0) B 2 3 rfl (by decide) rfl (by decide) rfl rfl (fun w h => in_of (uw_2 w h)) (in_of qfRX11_128) dX11_order_70 h1 rfl ?_
  refine k_iconst (v := 3) B (by decide) dX11_order_73 ?_
  refine tcallS_V (st := []) B ht [.int (gI S 131 t0), .int 3] (hc) (va_cwS 2 B.1.2.2.2.2 (gS qlRX11_105 qsX11_needSpace qzRX11 qcX11_needSpace) rfl rfl rfl (by decide +kernel) ⟨Nat.le_of_ble_eq_true rfl, Nat.le_of_ble_eq_true rfl⟩) rfl (Nat.le_of_ble_eq_true rfl) rfl dX11_order_74 ⟨h2, h3⟩ ⟨h2, h3⟩ (kx) (fun S' hp => ?_)
  refine k_sub [1, 2, 0] rfl ?_
  exact kk S' hp
theorem bX11_order_77 (B : Bd p s m args meth c cX11_order 5 (wsOf yX11_order cX11_order 5 (some .int)) RX11 w (some .int) "order") (hl : l.stackTraces = false) (ht : ∀ x ∈ c.exceptionTable.toList, False) {v2 : Int32} {v3 : Int32} {v4 : Nat} {x1 : Nat} {k n : Nat} {px' : String → St → Prop} {Qc : Array Value → State → Outcome → State → Prop} (h1 : kd S v4 = 3) (h2 : gP S 130 v4 = some x1) (kt : v2 = 0 → K p l e rX11_order s m args below meth c 5 w k n (vx_MQ below Qc (XCs w px') args s rX11_order.cells rX11_order.slots (wA w)) S 96 [(3, .int v3), (4, .ref v4)] [.int (gI S 131 v4), .ref x1]) (kf : ¬ v2 = 0 → K p l e rX11_order s m args below meth c 5 w k n (vx_MQ below Qc (XCs w px') args s rX11_order.cells rX11_order.slots (wA w)) S 91 [(3, .int v3), (4, .ref v4)] [.int (gI S 131 v4), .ref x1]) : K p l e rX11_order s m args below meth c 5 w k n (vx_MQ below Qc (XCs w px') args s rX11_order.cells rX11_order.slots (wA w)) S 77 [(2, .int v2), (3, .int v3), (4, .ref v4)] [] := by
  refine k_aload B 2 rfl dX11_order_77 ?_
  refine k_getP (f := 130) (r := gP S 130 v4) B 2 2 rfl (by decide) rfl (by decide) rfl rfl (fun w h => in_of (uw_2 w h)) (in_of qfRX11_131) dX11_order_79 h1 rfl ?_
  rw [h2]; change K _ _ _ _ _ _ _ _ _ _ _ _ _ _ _ _ _ _ (.ref x1 :: _)
  refine k_aload B 2 rfl dX11_order_82 ?_
  refine k_getI (f := 131) (v := gI S 131 v4) B 2 3 rfl (by decide) rfl (by decide) rfl rfl (fun w h => in_of (uw_2 w h)) (in_of qfRX11_128) dX11_order_84 h1 rfl ?_
  refine k_iload_n B 0 rfl rfl dX11_order_87 ?_
  refine k_if_eq (tgt := 96) B dX11_order_88 (by decide) (fun c => ?_) (fun c => ?_)
  · refine k_sub [1, 2] rfl ?_
    exact kt c
  · refine k_sub [1, 2] rfl ?_
    exact kf c
theorem bX11_order_91 (B : Bd p s m args meth c cX11_order 5 (wsOf yX11_order cX11_order 5 (some .int)) RX11 w (some .int) "order") (hl : l.stackTraces = false) (ht : ∀ x ∈ c.exceptionTable.toList, False) {v3 : Int32} {v4 : Nat} {t0 : Nat} {t1 : Int32} {k n : Nat} {px' : String → St → Prop} {Qc : Array Value → State → Outcome → State → Prop}  (kk : K p l e rX11_order s m args below meth c 5 w k n (vx_MQ below Qc (XCs w px') args s rX11_order.cells rX11_order.slots (wA w)) S 99 [(3, .int v3), (4, .ref v4)] [.int 100, .int t1, .ref t0]) : K p l e rX11_order s m args below meth c 5 w k n (vx_MQ below Qc (XCs w px') args s rX11_order.cells rX11_order.slots (wA w)) S 91 [(3, .int v3), (4, .ref v4)] [.int t1, .ref t0] := by
  refine k_bipush (v := 100) B (by decide) dX11_order_91 ?_
  refine k_goto (tgt := 99) B dX11_order_93 (by decide) ?_
  exact kk
theorem bX11_order_96 (B : Bd p s m args meth c cX11_order 5 (wsOf yX11_order cX11_order 5 (some .int)) RX11 w (some .int) "order") (hl : l.stackTraces = false) (ht : ∀ x ∈ c.exceptionTable.toList, False) {v3 : Int32} {v4 : Nat} {t0 : Nat} {t1 : Int32} {k n : Nat} {px' : String → St → Prop} {Qc : Array Value → State → Outcome → State → Prop}  (kk : K p l e rX11_order s m args below meth c 5 w k n (vx_MQ below Qc (XCs w px') args s rX11_order.cells rX11_order.slots (wA w)) S 99 [(3, .int v3), (4, .ref v4)] [.int 200, .int t1, .ref t0]) : K p l e rX11_order s m args below meth c 5 w k n (vx_MQ below Qc (XCs w px') args s rX11_order.cells rX11_order.slots (wA w)) S 96 [(3, .int v3), (4, .ref v4)] [.int t1, .ref t0] := by
  refine k_sipush (v := 200) B (by decide) dX11_order_96 ?_
  exact kk
theorem bX11_order_99 (B : Bd p s m args meth c cX11_order 5 (wsOf yX11_order cX11_order 5 (some .int)) RX11 w (some .int) "order") (hl : l.stackTraces = false) (ht : ∀ x ∈ c.exceptionTable.toList, False) {v3 : Int32} {v4 : Nat} {t0 : Nat} {t1 : Int32} {t2 : Int32} {post : Int32 → St → Prop} {k n : Nat} {px' : String → St → Prop} (h1 : kd S t0 = 21) (h2 : vp_in t1 (ln S t0)) (h3 : kd S v4 = 3) (h4 : k ≤ rX11_order.cells) (h5 : n ≤ rX11_order.slots) (hq : post ((gI S 131 v4) + 1) (sI (sRI S t0 (va_up (rI S t0) t1.toNatClampNeg (t2 + v3))) 131 v4 ((gI S 131 v4) + 1))) : K p l e rX11_order s m args below meth c 5 w k n (vx_MQ below (va_Qi post (fun S' t => Hd w S' t.heap) (wA w)) (XCs w px') args s rX11_order.cells rX11_order.slots (wA w)) S 99 [(3, .int v3), (4, .ref v4)] [.int t2, .int t1, .ref t0] := by
  refine k_iload_n B 0 rfl rfl dX11_order_99 ?_
  refine k_iadd B dX11_order_100 ?_
  refine k_iast (g := rI S t0) (S' := sRI S t0 (va_up (rI S t0) t1.toNatClampNeg (t2 + v3))) B dX11_order_101 h1 h2 rfl rfl ?_
  refine k_aload B 1 rfl dX11_order_102 ?_
  refine k_dup B rfl dX11_order_104 ?_
  refine k_getI (f := 131) (v := gI S 131 v4) B 2 3 rfl (by decide) rfl (by decide) rfl rfl (fun w h => in_of (uw_2 w h)) (in_of qfRX11_128) dX11_order_105 h3 rfl ?_
  refine k_iconst (v := 1) B (by decide) dX11_order_108 ?_
  refine k_iadd B dX11_order_109 ?_
  refine k_putI (f := 131) B 2 3 rfl (by decide) rfl (by decide) rfl rfl (fun w h => in_of (uw_2 w h)) (in_of qfRX11_128) tyX1 tyX1_ok nmX1 rfl (tyX1_ok 3 (by decide)) dX11_order_110 h3 ?_
  refine k_aload B 1 rfl dX11_order_113 ?_
  refine k_getI (f := 131) (v := (gI S 131 v4) + 1) B 2 3 rfl (by decide) rfl (by decide) rfl rfl (fun w h => in_of (uw_2 w h)) (in_of qfRX11_128) dX11_order_115 h3 (by simp [kd_sI, kd_sP, kd_sRI, kd_sRP, kd_nw, gI_sI, gI_sP, gI_sRI, gI_sRP, gI_nw, gP_sI, gP_sP, gP_sRI, gP_sRP, gP_nw, ln_sI, ln_sP, ln_sRI, ln_sRP, ln_nw, rI_sI, rI_sP, rI_sRI, rI_sRP, rI_nw, rP_sI, rP_sP, rP_sRI, rP_sRP, rP_nw, va_up_self]) ?_
  exact k_xret_I h4 h5 (ret_I B rfl dX11_order_118 (hq))
theorem bX11_addLocker_0 (B : Bd p s m args meth c cX11_addLocker 6 (wsOf yX11_addLocker cX11_addLocker 6 (some .int)) RX11 w (some .int) "addLocker") (hl : l.stackTraces = false) (ht : ∀ x ∈ c.exceptionTable.toList, False) {v0 : Nat} {v1 : Int32} {v2 : Int32} {v3 : Int32} {v4 : Int32} {v5 : Int32} {px : String → St → Prop} {post : St → Prop} {k n : Nat} {px' : String → St → Prop} {Qc : Array Value → State → Outcome → State → Prop} (hc : ConXV l yX11_needPlace (wsOf yX11_needPlace cX11_needPlace 2 none) rX11_needPlace w S [.int v1, .int v2] post px) (h1 : k + 2 ≤ rX11_addLocker.cells) (h2 : n + 12 ≤ rX11_addLocker.slots) (kx : ∀ (E : String) (S' : St), px E S' → px' E S') (kk : ∀ (S' : St), post S' → K p l e rX11_addLocker s m args below meth c 6 w (k + 2) (n + 12) (vx_MQ below Qc (XCs w px') args s rX11_addLocker.cells rX11_addLocker.slots (wA w)) S' 5 [(0, .ref v0), (1, .int v1), (2, .int v2), (3, .int v3), (4, .int v4), (5, .int v5)] []) : K p l e rX11_addLocker s m args below meth c 6 w k n (vx_MQ below Qc (XCs w px') args s rX11_addLocker.cells rX11_addLocker.slots (wA w)) S 0 [(0, .ref v0), (1, .int v1), (2, .int v2), (3, .int v3), (4, .int v4), (5, .int v5)] [] := by
  refine k_iload_n B 1 rfl rfl dX11_addLocker_0 ?_
  refine k_iload_n B 2 rfl rfl dX11_addLocker_1 ?_
  refine tcallS_V (st := []) B ht [.int v1, .int v2] (hc) (va_cwS 2 B.1.2.2.2.2 (gS qlRX11_83 qsX11_needPlace qzRX11 qcX11_needPlace) rfl rfl rfl (by decide +kernel) ⟨Nat.le_of_ble_eq_true rfl, Nat.le_of_ble_eq_true rfl⟩) rfl (Nat.le_of_ble_eq_true rfl) rfl dX11_addLocker_2 ⟨h1, h2⟩ ⟨h1, h2⟩ (kx) (fun S' hp => ?_)
  exact kk S' hp
theorem bX11_addLocker_5 (B : Bd p s m args meth c cX11_addLocker 6 (wsOf yX11_addLocker cX11_addLocker 6 (some .int)) RX11 w (some .int) "addLocker") (hl : l.stackTraces = false) (ht : ∀ x ∈ c.exceptionTable.toList, False) {v0 : Nat} {v1 : Int32} {v2 : Int32} {v3 : Int32} {v4 : Int32} {v5 : Int32} {px : String → St → Prop} {post : St → Prop} {k n : Nat} {px' : String → St → Prop} {Qc : Array Value → State → Outcome → State → Prop} (hc : ConXV l yX11_needRange (wsOf yX11_needRange cX11_needRange 3 none) rX11_needRange w S [.int v3, .int 0, .int 9] post px) (h1 : k + 1 ≤ rX11_addLocker.cells) (h2 : n + 6 ≤ rX11_addLocker.slots) (kx : ∀ (E : String) (S' : St), px E S' → px' E S') (kk : ∀ (S' : St), post S' → K p l e rX11_addLocker s m args below meth c 6 w (k + 1) (n + 6) (vx_MQ below Qc (XCs w px') args s rX11_addLocker.cells rX11_addLocker.slots (wA w)) S' 12 [(0, .ref v0), (1, .int v1), (2, .int v2), (3, .int v3), (4, .int v4), (5, .int v5)] []) : K p l e rX11_addLocker s m args below meth c 6 w k n (vx_MQ below Qc (XCs w px') args s rX11_addLocker.cells rX11_addLocker.slots (wA w)) S 5 [(0, .ref v0), (1, .int v1), (2, .int v2), (3, .int v3), (4, .int v4), (5, .int v5)] [] := by
  refine k_iload_n B 3 rfl rfl dX11_addLocker_5 ?_
  refine k_iconst (v := 0) B (by decide) dX11_addLocker_6 ?_
  refine k_bipush (v := 9) B (by decide) dX11_addLocker_7 ?_
  refine tcallS_V (st := []) B ht [.int v3, .int 0, .int 9] (hc) (va_cwS 3 B.1.2.2.2.2 (gS qlRX11_75 qsX11_needRange qzRX11 qcX11_needRange) rfl rfl rfl (by decide +kernel) ⟨Nat.le_of_ble_eq_true rfl, Nat.le_of_ble_eq_true rfl⟩) rfl (Nat.le_of_ble_eq_true rfl) rfl dX11_addLocker_9 ⟨h1, h2⟩ ⟨h1, h2⟩ (kx) (fun S' hp => ?_)
  exact kk S' hp
theorem bX11_addLocker_12 (B : Bd p s m args meth c cX11_addLocker 6 (wsOf yX11_addLocker cX11_addLocker 6 (some .int)) RX11 w (some .int) "addLocker") (hl : l.stackTraces = false) (ht : ∀ x ∈ c.exceptionTable.toList, False) {v0 : Nat} {v1 : Int32} {v2 : Int32} {v3 : Int32} {v4 : Int32} {v5 : Int32} {px : String → St → Prop} {post : St → Prop} {k n : Nat} {px' : String → St → Prop} {Qc : Array Value → State → Outcome → State → Prop} (hc : ConXV l yX11_needRange (wsOf yX11_needRange cX11_needRange 3 none) rX11_needRange w S [.int v4, .int 0, .int 9] post px) (h1 : k + 1 ≤ rX11_addLocker.cells) (h2 : n + 6 ≤ rX11_addLocker.slots) (kx : ∀ (E : String) (S' : St), px E S' → px' E S') (kk : ∀ (S' : St), post S' → K p l e rX11_addLocker s m args below meth c 6 w (k + 1) (n + 6) (vx_MQ below Qc (XCs w px') args s rX11_addLocker.cells rX11_addLocker.slots (wA w)) S' 20 [(0, .ref v0), (1, .int v1), (2, .int v2), (3, .int v3), (4, .int v4), (5, .int v5)] []) : K p l e rX11_addLocker s m args below meth c 6 w k n (vx_MQ below Qc (XCs w px') args s rX11_addLocker.cells rX11_addLocker.slots (wA w)) S 12 [(0, .ref v0), (1, .int v1), (2, .int v2), (3, .int v3), (4, .int v4), (5, .int v5)] [] := by
  refine k_iload B 4 rfl dX11_addLocker_12 ?_
  refine k_iconst (v := 0) B (by decide) dX11_addLocker_14 ?_
  refine k_bipush (v := 9) B (by decide) dX11_addLocker_15 ?_
  refine tcallS_V (st := []) B ht [.int v4, .int 0, .int 9] (hc) (va_cwS 3 B.1.2.2.2.2 (gS qlRX11_75 qsX11_needRange qzRX11 qcX11_needRange) rfl rfl rfl (by decide +kernel) ⟨Nat.le_of_ble_eq_true rfl, Nat.le_of_ble_eq_true rfl⟩) rfl (Nat.le_of_ble_eq_true rfl) rfl dX11_addLocker_17 ⟨h1, h2⟩ ⟨h1, h2⟩ (kx) (fun S' hp => ?_)
  exact kk S' hp
theorem bX11_addLocker_20 (B : Bd p s m args meth c cX11_addLocker 6 (wsOf yX11_addLocker cX11_addLocker 6 (some .int)) RX11 w (some .int) "addLocker") (hl : l.stackTraces = false) (ht : ∀ x ∈ c.exceptionTable.toList, False) {v0 : Nat} {v1 : Int32} {v2 : Int32} {v3 : Int32} {v4 : Int32} {v5 : Int32} {px : String → St → Prop} {post : St → Prop} {k n : Nat} {px' : String → St → Prop} {Qc : Array Value → State → Outcome → State → Prop} (hc : ConXV l yX11_needRange (wsOf yX11_needRange cX11_needRange 3 none) rX11_needRange w S [.int v5, .int 0, .int 9] post px) (h1 : k + 1 ≤ rX11_addLocker.cells) (h2 : n + 6 ≤ rX11_addLocker.slots) (kx : ∀ (E : String) (S' : St), px E S' → px' E S') (kk : ∀ (S' : St), post S' → K p l e rX11_addLocker s m args below meth c 6 w (k + 1) (n + 6) (vx_MQ below Qc (XCs w px') args s rX11_addLocker.cells rX11_addLocker.slots (wA w)) S' 28 [(0, .ref v0), (1, .int v1), (2, .int v2), (3, .int v3), (4, .int v4), (5, .int v5)] []) : K p l e rX11_addLocker s m args below meth c 6 w k n (vx_MQ below Qc (XCs w px') args s rX11_addLocker.cells rX11_addLocker.slots (wA w)) S 20 [(0, .ref v0), (1, .int v1), (2, .int v2), (3, .int v3), (4, .int v4), (5, .int v5)] [] := by
  refine k_iload B 5 rfl dX11_addLocker_20 ?_
  refine k_iconst (v := 0) B (by decide) dX11_addLocker_22 ?_
  refine k_bipush (v := 9) B (by decide) dX11_addLocker_23 ?_
  refine tcallS_V (st := []) B ht [.int v5, .int 0, .int 9] (hc) (va_cwS 3 B.1.2.2.2.2 (gS qlRX11_75 qsX11_needRange qzRX11 qcX11_needRange) rfl rfl rfl (by decide +kernel) ⟨Nat.le_of_ble_eq_true rfl, Nat.le_of_ble_eq_true rfl⟩) rfl (Nat.le_of_ble_eq_true rfl) rfl dX11_addLocker_25 ⟨h1, h2⟩ ⟨h1, h2⟩ (kx) (fun S' hp => ?_)
  exact kk S' hp
theorem bX11_addLocker_28 (B : Bd p s m args meth c cX11_addLocker 6 (wsOf yX11_addLocker cX11_addLocker 6 (some .int)) RX11 w (some .int) "addLocker") (hl : l.stackTraces = false) (ht : ∀ x ∈ c.exceptionTable.toList, False) {v0 : Nat} {v1 : Int32} {v2 : Int32} {v3 : Int32} {v4 : Int32} {v5 : Int32} {x1 : Nat} {post : Int32 → St → Prop} {k n : Nat} {px' : String → St → Prop} {Qc : Array Value → State → Outcome → State → Prop} (h1 : kd S v0 = 13) (h2 : gP S 770 v0 = some x1) (hc : ConI l yJx4a65c_size_8abf5 (wsOf yJx4a65c_size_8abf5 cJx4a65c_size_8abf5 1 (some .int)) rJx4a65c_size_8abf5 w S [.ref x1] post) (h3 : k + 0 ≤ rX11_addLocker.cells) (h4 : n + 0 ≤ rX11_addLocker.slots) (h5 : kd S x1 = 1) (kk : ∀ (r : Int32) (S' : St), post r S' → K p l e rX11_addLocker s m args below meth c 6 w k n (vx_MQ below Qc (XCs w px') args s rX11_addLocker.cells rX11_addLocker.slots (wA w)) S' 35 [(0, .ref v0), (1, .int v1), (2, .int v2), (3, .int v3), (4, .int v4), (5, .int v5)] [.int r]) : K p l e rX11_addLocker s m args below meth c 6 w k n (vx_MQ below Qc (XCs w px') args s rX11_addLocker.cells rX11_addLocker.slots (wA w)) S 28 [(0, .ref v0), (1, .int v1), (2, .int v2), (3, .int v3), (4, .int v4), (5, .int v5)] [] := by
  refine k_aload_n B 0 rfl rfl dX11_addLocker_28 ?_
  refine k_getP (f := 770) (r := gP S 770 v0) B 12 2 rfl (by decide) rfl (by decide) rfl rfl (fun w h => in_of (uw_12 w h)) (in_of qfRX11_23) dX11_addLocker_29 h1 rfl ?_
  rw [h2]; change K _ _ _ _ _ _ _ _ _ _ _ _ _ _ _ _ _ _ (.ref x1 :: _)
  refine callV_I (st := []) B [] (hc) (cwV 0 B.1.2.2.2.2 (gV qlRX11_101 qiJx4a65c_size_8abf5 qeJx4a65c_size_8abf5 qzRJx4a65c qcJx4a65c_size_8abf5) rfl rfl rfl (by decide +kernel) ⟨Nat.le_of_ble_eq_true rfl, Nat.le_of_ble_eq_true rfl⟩) rfl rfl (by decide) h5 (Nat.le_of_ble_eq_true rfl) rfl dX11_addLocker_32 ⟨h3, h4⟩ (fun r S' hp => ?_)
  exact kk r S' hp
theorem bX11_addLocker_35 (B : Bd p s m args meth c cX11_addLocker 6 (wsOf yX11_addLocker cX11_addLocker 6 (some .int)) RX11 w (some .int) "addLocker") (hl : l.stackTraces = false) (ht : ∀ x ∈ c.exceptionTable.toList, False) {v0 : Nat} {v1 : Int32} {v2 : Int32} {v3 : Int32} {v4 : Int32} {v5 : Int32} {t0 : Int32} {px : String → St → Prop} {post : St → Prop} {k n : Nat} {px' : String → St → Prop} {Qc : Array Value → State → Outcome → State → Prop} (hc : ConXV l yX11_needSpace (wsOf yX11_needSpace cX11_needSpace 2 none) rX11_needSpace w S [.int t0, .int 4] post px) (h1 : k + 1 ≤ rX11_addLocker.cells) (h2 : n + 6 ≤ rX11_addLocker.slots) (kx : ∀ (E : String) (S' : St), px E S' → px' E S') (kk : ∀ (S' : St), post S' → K p l e rX11_addLocker s m args below meth c 6 w (k + 1) (n + 6) (vx_MQ below Qc (XCs w px') args s rX11_addLocker.cells rX11_addLocker.slots (wA w)) S' 39 [(0, .ref v0), (1, .int v1), (2, .int v2), (3, .int v3), (4, .int v4), (5, .int v5)] []) : K p l e rX11_addLocker s m args below meth c 6 w k n (vx_MQ below Qc (XCs w px') args s rX11_addLocker.cells rX11_addLocker.slots (wA w)) S 35 [(0, .ref v0), (1, .int v1), (2, .int v2), (3, .int v3), (4, .int v4), (5, .int v5)] [.int t0] := by
  refine k_iconst (v := 4) B (by decide) dX11_addLocker_35 ?_
  refine tcallS_V (st := []) B ht [.int t0, .int 4] (hc) (va_cwS 2 B.1.2.2.2.2 (gS qlRX11_105 qsX11_needSpace qzRX11 qcX11_needSpace) rfl rfl rfl (by decide +kernel) ⟨Nat.le_of_ble_eq_true rfl, Nat.le_of_ble_eq_true rfl⟩) rfl (Nat.le_of_ble_eq_true rfl) rfl dX11_addLocker_36 ⟨h1, h2⟩ ⟨h1, h2⟩ (kx) (fun S' hp => ?_)
  exact kk S' hp
theorem bX11_addLocker_39 (B : Bd p s m args meth c cX11_addLocker 6 (wsOf yX11_addLocker cX11_addLocker 6 (some .int)) RX11 w (some .int) "addLocker") (hl : l.stackTraces = false) (ht : ∀ x ∈ c.exceptionTable.toList, False) {v0 : Nat} {v1 : Int32} {v2 : Int32} {v3 : Int32} {v4 : Int32} {v5 : Int32} {x1 : Nat} {k n : Nat} {px' : String → St → Prop} {Qc : Array Value → State → Outcome → State → Prop} (h1 : kd S v0 = 13) (h2 : gP S 770 v0 = some x1) (h3 : k + 1 ≤ rX11_addLocker.cells) (h4 : n + 3 ≤ rX11_addLocker.slots) (kk : ∀ q43 : Nat, kd S q43 = 0 → K p l e rX11_addLocker s m args below meth c 6 w (k + 1) (n + 3) (vx_MQ below Qc (XCs w px') args s rX11_addLocker.cells rX11_addLocker.slots (wA w)) (nw S q43 4 0) 46 [(0, .ref v0), (1, .int v1), (2, .int v2), (3, .int v3), (4, .int v4), (5, .int v5)] [.ref q43, .ref x1]) : K p l e rX11_addLocker s m args below meth c 6 w k n (vx_MQ below Qc (XCs w px') args s rX11_addLocker.cells rX11_addLocker.slots (wA w)) S 39 [(0, .ref v0), (1, .int v1), (2, .int v2), (3, .int v3), (4, .int v4), (5, .int v5)] [] := by
  refine k_aload_n B 0 rfl rfl dX11_addLocker_39 ?_
  refine k_getP (f := 770) (r := gP S 770 v0) B 12 2 rfl (by decide) rfl (by decide) rfl rfl (fun w h => in_of (uw_12 w h)) (in_of qfRX11_23) dX11_addLocker_40 h1 rfl ?_
  rw [h2]; change K _ _ _ _ _ _ _ _ _ _ _ _ _ _ _ _ _ _ (.ref x1 :: _)
  refine k_new B 3 rfl rfl (by decide) tyX2 tyX2_ok (by decide +kernel) (fun w h => in_of (uw_3 w h)) (in_of qkRX11_134) (in_of qn3) (in_of qzRX2) h3 h4 dX11_addLocker_43 (fun q43 f43 => ?_)
  exact kk q43 f43
theorem bX11_addLocker_46 (B : Bd p s m args meth c cX11_addLocker 6 (wsOf yX11_addLocker cX11_addLocker 6 (some .int)) RX11 w (some .int) "addLocker") (hl : l.stackTraces = false) (ht : ∀ x ∈ c.exceptionTable.toList, False) {v0 : Nat} {v1 : Int32} {v2 : Int32} {v3 : Int32} {v4 : Int32} {v5 : Int32} {t0 : Nat} {t1 : Nat} {k n : Nat} {px' : String → St → Prop} {Qc : Array Value → State → Outcome → State → Prop} (h1 : k + 1 ≤ rX11_addLocker.cells) (h2 : n + 2 ≤ rX11_addLocker.slots) (kk : ∀ q47 : Nat, kd S q47 = 0 → K p l e rX11_addLocker s m args below meth c 6 w (k + 1) (n + 2) (vx_MQ below Qc (XCs w px') args s rX11_addLocker.cells rX11_addLocker.slots (wA w)) (nw S q47 6 0) 50 [(0, .ref v0), (1, .int v1), (2, .int v2), (3, .int v3), (4, .int v4), (5, .int v5)] [.ref q47, .ref t1, .ref t1, .ref t0]) : K p l e rX11_addLocker s m args below meth c 6 w k n (vx_MQ below Qc (XCs w px') args s rX11_addLocker.cells rX11_addLocker.slots (wA w)) S 46 [(0, .ref v0), (1, .int v1), (2, .int v2), (3, .int v3), (4, .int v4), (5, .int v5)] [.ref t1, .ref t0] := by
  refine k_dup B rfl dX11_addLocker_46 ?_
  refine k_new B 5 rfl rfl (by decide) tyX4 tyX4_ok (by decide +kernel) (fun w h => in_of (uw_5 w h)) (in_of qkRX11_90) (in_of qn5) (in_of qzRX4) h1 h2 dX11_addLocker_47 (fun q47 f47 => ?_)
  exact kk q47 f47
theorem bX11_addLocker_50 (B : Bd p s m args meth c cX11_addLocker 6 (wsOf yX11_addLocker cX11_addLocker 6 (some .int)) RX11 w (some .int) "addLocker") (hl : l.stackTraces = false) (ht : ∀ x ∈ c.exceptionTable.toList, False) {v0 : Nat} {v1 : Int32} {v2 : Int32} {v3 : Int32} {v4 : Int32} {v5 : Int32} {t0 : Nat} {t1 : Nat} {t2 : Nat} {t3 : Nat} {post : St → Prop} {k n : Nat} {px' : String → St → Prop} {Qc : Array Value → State → Outcome → State → Prop} (hc : ConV l yX4_init (wsOf yX4_init cX4_init 3 none) rX4_init w S [.ref t3, .int v1, .int v2] post) (h1 : k + 0 ≤ rX11_addLocker.cells) (h2 : n + 0 ≤ rX11_addLocker.slots) (kk : ∀ (S' : St), post S' → K p l e rX11_addLocker s m args below meth c 6 w k n (vx_MQ below Qc (XCs w px') args s rX11_addLocker.cells rX11_addLocker.slots (wA w)) S' 56 [(0, .ref v0), (3, .int v3), (4, .int v4), (5, .int v5)] [.ref t3, .ref t2, .ref t1, .ref t0]) : K p l e rX11_addLocker s m args below meth c 6 w k n (vx_MQ below Qc (XCs w px') args s rX11_addLocker.cells rX11_addLocker.slots (wA w)) S 50 [(0, .ref v0), (1, .int v1), (2, .int v2), (3, .int v3), (4, .int v4), (5, .int v5)] [.ref t3, .ref t2, .ref t1, .ref t0] := by
  refine k_dup B rfl dX11_addLocker_50 ?_
  refine k_iload_n B 1 rfl rfl dX11_addLocker_51 ?_
  refine k_iload_n B 2 rfl rfl dX11_addLocker_52 ?_
  refine callC_V (st := [.ref t3, .ref t2, .ref t1, .ref t0]) B [.int v1, .int v2] (hc) (cwI 2 B.1.2.2.2.2 (gB qcX4_init) rfl rfl rfl (B.1.2.2.2.2 _ (in_of qzRX4)) (B.1.2.2.2.2 _ (in_of qlRX11_92)) (B.1.2.2.2.2 _ (in_of qiX4_init)) rfl (by decide +kernel) ⟨Nat.le_of_ble_eq_true rfl, Nat.le_of_ble_eq_true rfl⟩) rfl (Nat.le_of_ble_eq_true rfl) rfl dX11_addLocker_53 ⟨h1, h2⟩ (fun S' hp => ?_)
  refine k_sub [0, 3, 4, 5] rfl ?_
  exact kk S' hp
theorem bX11_addLocker_56 (B : Bd p s m args meth c cX11_addLocker 6 (wsOf yX11_addLocker cX11_addLocker 6 (some .int)) RX11 w (some .int) "addLocker") (hl : l.stackTraces = false) (ht : ∀ x ∈ c.exceptionTable.toList, False) {v0 : Nat} {v3 : Int32} {v4 : Int32} {v5 : Int32} {t0 : Nat} {t1 : Nat} {t2 : Nat} {t3 : Nat} {post : St → Prop} {k n : Nat} {px' : String → St → Prop} {Qc : Array Value → State → Outcome → State → Prop} (hc : ConV l yX2_init (wsOf yX2_init cX2_init 5 none) rX2_init w S [.ref t2, .ref t3, .int v3, .int v4, .int v5] post) (h1 : k + 2 ≤ rX11_addLocker.cells) (h2 : n + 6 ≤ rX11_addLocker.slots) (kk : ∀ (S' : St), post S' → K p l e rX11_addLocker s m args below meth c 6 w (k + 2) (n + 6) (vx_MQ below Qc (XCs w px') args s rX11_addLocker.cells rX11_addLocker.slots (wA w)) S' 64 [(0, .ref v0)] [.ref t1, .ref t0]) : K p l e rX11_addLocker s m args below meth c 6 w k n (vx_MQ below Qc (XCs w px') args s rX11_addLocker.cells rX11_addLocker.slots (wA w)) S 56 [(0, .ref v0), (3, .int v3), (4, .int v4), (5, .int v5)] [.ref t3, .ref t2, .ref t1, .ref t0] := by
  refine k_iload_n B 1 rfl rfl dX11_addLocker_56 ?_
  refine k_iload B 2 rfl dX11_addLocker_57 ?_
  refine k_iload B 3 rfl dX11_addLocker_59 ?_
  refine callC_V (st := [.ref t1, .ref t0]) B [.ref t3, .int v3, .int v4, .int v5] (hc) (cwI 4 B.1.2.2.2.2 (gB qcX2_init) rfl rfl rfl (B.1.2.2.2.2 _ (in_of qzRX2)) (B.1.2.2.2.2 _ (in_of qlRX11_136)) (B.1.2.2.2.2 _ (in_of qiX2_init)) rfl (by decide +kernel) ⟨Nat.le_of_ble_eq_true rfl, Nat.le_of_ble_eq_true rfl⟩) rfl (Nat.le_of_ble_eq_true rfl) rfl dX11_addLocker_61 ⟨h1, h2⟩ (fun S' hp => ?_)
  refine k_sub [0] rfl ?_
  exact kk S' hp
theorem bX11_addLocker_64 (B : Bd p s m args meth c cX11_addLocker 6 (wsOf yX11_addLocker cX11_addLocker 6 (some .int)) RX11 w (some .int) "addLocker") (hl : l.stackTraces = false) (ht : ∀ x ∈ c.exceptionTable.toList, False) {v0 : Nat} {t0 : Nat} {t1 : Nat} {post : Int32 → St → Prop} {k n : Nat} {px' : String → St → Prop} {Qc : Array Value → State → Outcome → State → Prop} (hc : ConI l yJx4a65c_add_9ea2d (wsOf yJx4a65c_add_9ea2d cJx4a65c_add_9ea2d 2 (some .boolean)) rJx4a65c_add_9ea2d w S [.ref t0, .ref t1] post) (h1 : k + 1 ≤ rX11_addLocker.cells) (h2 : n + 40 ≤ rX11_addLocker.slots) (h3 : kd S t0 = 1) (kk : ∀ (r : Int32) (S' : St), post r S' → K p l e rX11_addLocker s m args below meth c 6 w (k + 1) (n + 40) (vx_MQ below Qc (XCs w px') args s rX11_addLocker.cells rX11_addLocker.slots (wA w)) S' 67 [(0, .ref v0)] [.int r]) : K p l e rX11_addLocker s m args below meth c 6 w k n (vx_MQ below Qc (XCs w px') args s rX11_addLocker.cells rX11_addLocker.slots (wA w)) S 64 [(0, .ref v0)] [.ref t1, .ref t0] := by
  refine callV_I (st := []) B [.ref t1] (hc) (cwV 1 B.1.2.2.2.2 (gV qlRX11_113 qiJx4a65c_add_9ea2d qeJx4a65c_add_9ea2d qzRJx4a65c qcJx4a65c_add_9ea2d) rfl rfl rfl (by decide +kernel) ⟨Nat.le_of_ble_eq_true rfl, Nat.le_of_ble_eq_true rfl⟩) rfl rfl (by decide) h3 (Nat.le_of_ble_eq_true rfl) rfl dX11_addLocker_64 ⟨h1, h2⟩ (fun r S' hp => ?_)
  exact kk r S' hp
theorem bX11_addLocker_67 (B : Bd p s m args meth c cX11_addLocker 6 (wsOf yX11_addLocker cX11_addLocker 6 (some .int)) RX11 w (some .int) "addLocker") (hl : l.stackTraces = false) (ht : ∀ x ∈ c.exceptionTable.toList, False) {v0 : Nat} {t0 : Int32} {x1 : Nat} {post : Int32 → St → Prop} {k n : Nat} {px' : String → St → Prop} {Qc : Array Value → State → Outcome → State → Prop} (h1 : kd S v0 = 13) (h2 : gP S 770 v0 = some x1) (hc : ConI l yJx4a65c_size_8abf5 (wsOf yJx4a65c_size_8abf5 cJx4a65c_size_8abf5 1 (some .int)) rJx4a65c_size_8abf5 w S [.ref x1] post) (h3 : k + 0 ≤ rX11_addLocker.cells) (h4 : n + 0 ≤ rX11_addLocker.slots) (h5 : kd S x1 = 1) (kk : ∀ (r : Int32) (S' : St), post r S' → K p l e rX11_addLocker s m args below meth c 6 w k n (vx_MQ below Qc (XCs w px') args s rX11_addLocker.cells rX11_addLocker.slots (wA w)) S' 75 [] [.int r]) : K p l e rX11_addLocker s m args below meth c 6 w k n (vx_MQ below Qc (XCs w px') args s rX11_addLocker.cells rX11_addLocker.slots (wA w)) S 67 [(0, .ref v0)] [.int t0] := by
  refine k_pop B rfl dX11_addLocker_67 ?_
  refine k_aload_n B 0 rfl rfl dX11_addLocker_68 ?_
  refine k_getP (f := 770) (r := gP S 770 v0) B 12 2 rfl (by decide) rfl (by decide) rfl rfl (fun w h => in_of (uw_12 w h)) (in_of qfRX11_23) dX11_addLocker_69 h1 rfl ?_
  rw [h2]; change K _ _ _ _ _ _ _ _ _ _ _ _ _ _ _ _ _ _ (.ref x1 :: _)
  refine callV_I (st := []) B [] (hc) (cwV 0 B.1.2.2.2.2 (gV qlRX11_101 qiJx4a65c_size_8abf5 qeJx4a65c_size_8abf5 qzRJx4a65c qcJx4a65c_size_8abf5) rfl rfl rfl (by decide +kernel) ⟨Nat.le_of_ble_eq_true rfl, Nat.le_of_ble_eq_true rfl⟩) rfl rfl (by decide) h5 (Nat.le_of_ble_eq_true rfl) rfl dX11_addLocker_72 ⟨h3, h4⟩ (fun r S' hp => ?_)
  refine k_sub [] rfl ?_
  exact kk r S' hp
theorem bX11_addLocker_75 (B : Bd p s m args meth c cX11_addLocker 6 (wsOf yX11_addLocker cX11_addLocker 6 (some .int)) RX11 w (some .int) "addLocker") (hl : l.stackTraces = false) (ht : ∀ x ∈ c.exceptionTable.toList, False) {t0 : Int32} {post : Int32 → St → Prop} {k n : Nat} {px' : String → St → Prop} (h1 : k ≤ rX11_addLocker.cells) (h2 : n ≤ rX11_addLocker.slots) (hq : post (t0 - 1) S) : K p l e rX11_addLocker s m args below meth c 6 w k n (vx_MQ below (va_Qi post (fun S' t => Hd w S' t.heap) (wA w)) (XCs w px') args s rX11_addLocker.cells rX11_addLocker.slots (wA w)) S 75 [] [.int t0] := by
  refine k_iconst (v := 1) B (by decide) dX11_addLocker_75 ?_
  refine k_isub B dX11_addLocker_76 ?_
  exact k_xret_I h1 h2 (ret_I B rfl dX11_addLocker_77 (hq))
theorem bX11_addVan_0 (B : Bd p s m args meth c cX11_addVan 4 (wsOf yX11_addVan cX11_addVan 4 (some .int)) RX11 w (some .int) "addVan") (hl : l.stackTraces = false) (ht : ∀ x ∈ c.exceptionTable.toList, False) {v0 : Nat} {v1 : Int32} {v2 : Int32} {v3 : Int32} {px : String → St → Prop} {post : St → Prop} {k n : Nat} {px' : String → St → Prop} {Qc : Array Value → State → Outcome → State → Prop} (hc : ConXV l yX11_needRange (wsOf yX11_needRange cX11_needRange 3 none) rX11_needRange w S [.int v1, .int 10, .int 200] post px) (h1 : k + 1 ≤ rX11_addVan.cells) (h2 : n + 6 ≤ rX11_addVan.slots) (kx : ∀ (E : String) (S' : St), px E S' → px' E S') (kk : ∀ (S' : St), post S' → K p l e rX11_addVan s m args below meth c 4 w (k + 1) (n + 6) (vx_MQ below Qc (XCs w px') args s rX11_addVan.cells rX11_addVan.slots (wA w)) S' 9 [(0, .ref v0), (1, .int v1), (2, .int v2), (3, .int v3)] []) : K p l e rX11_addVan s m args below meth c 4 w k n (vx_MQ below Qc (XCs w px') args s rX11_addVan.cells rX11_addVan.slots (wA w)) S 0 [(0, .ref v0), (1, .int v1), (2, .int v2), (3, .int v3)] [] := by
  refine k_iload_n B 1 rfl rfl dX11_addVan_0 ?_
  refine k_bipush (v := 10) B (by decide) dX11_addVan_1 ?_
  refine k_sipush (v := 200) B (by decide) dX11_addVan_3 ?_
  refine tcallS_V (st := []) B ht [.int v1, .int 10, .int 200] (hc) (va_cwS 3 B.1.2.2.2.2 (gS qlRX11_75 qsX11_needRange qzRX11 qcX11_needRange) rfl rfl rfl (by decide +kernel) ⟨Nat.le_of_ble_eq_true rfl, Nat.le_of_ble_eq_true rfl⟩) rfl (Nat.le_of_ble_eq_true rfl) rfl dX11_addVan_6 ⟨h1, h2⟩ ⟨h1, h2⟩ (kx) (fun S' hp => ?_)
  exact kk S' hp
theorem bX11_addVan_9 (B : Bd p s m args meth c cX11_addVan 4 (wsOf yX11_addVan cX11_addVan 4 (some .int)) RX11 w (some .int) "addVan") (hl : l.stackTraces = false) (ht : ∀ x ∈ c.exceptionTable.toList, False) {v0 : Nat} {v1 : Int32} {v2 : Int32} {v3 : Int32} {px : String → St → Prop} {post : St → Prop} {k n : Nat} {px' : String → St → Prop} {Qc : Array Value → State → Outcome → State → Prop} (hc : ConXV l yX11_needRange (wsOf yX11_needRange cX11_needRange 3 none) rX11_needRange w S [.int v2, .int 0, .int 1439] post px) (h1 : k + 1 ≤ rX11_addVan.cells) (h2 : n + 6 ≤ rX11_addVan.slots) (kx : ∀ (E : String) (S' : St), px E S' → px' E S') (kk : ∀ (S' : St), post S' → K p l e rX11_addVan s m args below meth c 4 w (k + 1) (n + 6) (vx_MQ below Qc (XCs w px') args s rX11_addVan.cells rX11_addVan.slots (wA w)) S' 17 [(0, .ref v0), (1, .int v1), (2, .int v2), (3, .int v3)] []) : K p l e rX11_addVan s m args below meth c 4 w k n (vx_MQ below Qc (XCs w px') args s rX11_addVan.cells rX11_addVan.slots (wA w)) S 9 [(0, .ref v0), (1, .int v1), (2, .int v2), (3, .int v3)] [] := by
  refine k_iload_n B 2 rfl rfl dX11_addVan_9 ?_
  refine k_iconst (v := 0) B (by decide) dX11_addVan_10 ?_
  refine k_sipush (v := 1439) B (by decide) dX11_addVan_11 ?_
  refine tcallS_V (st := []) B ht [.int v2, .int 0, .int 1439] (hc) (va_cwS 3 B.1.2.2.2.2 (gS qlRX11_75 qsX11_needRange qzRX11 qcX11_needRange) rfl rfl rfl (by decide +kernel) ⟨Nat.le_of_ble_eq_true rfl, Nat.le_of_ble_eq_true rfl⟩) rfl (Nat.le_of_ble_eq_true rfl) rfl dX11_addVan_14 ⟨h1, h2⟩ ⟨h1, h2⟩ (kx) (fun S' hp => ?_)
  exact kk S' hp
theorem bX11_addVan_17 (B : Bd p s m args meth c cX11_addVan 4 (wsOf yX11_addVan cX11_addVan 4 (some .int)) RX11 w (some .int) "addVan") (hl : l.stackTraces = false) (ht : ∀ x ∈ c.exceptionTable.toList, False) {v0 : Nat} {v1 : Int32} {v2 : Int32} {v3 : Int32} {px : String → St → Prop} {post : St → Prop} {k n : Nat} {px' : String → St → Prop} {Qc : Array Value → State → Outcome → State → Prop} (hc : ConXV l yX11_needRange (wsOf yX11_needRange cX11_needRange 3 none) rX11_needRange w S [.int v3, .int v2, .int 1439] post px) (h1 : k + 1 ≤ rX11_addVan.cells) (h2 : n + 6 ≤ rX11_addVan.slots) (kx : ∀ (E : String) (S' : St), px E S' → px' E S') (kk : ∀ (S' : St), post S' → K p l e rX11_addVan s m args below meth c 4 w (k + 1) (n + 6) (vx_MQ below Qc (XCs w px') args s rX11_addVan.cells rX11_addVan.slots (wA w)) S' 25 [(0, .ref v0), (1, .int v1), (2, .int v2), (3, .int v3)] []) : K p l e rX11_addVan s m args below meth c 4 w k n (vx_MQ below Qc (XCs w px') args s rX11_addVan.cells rX11_addVan.slots (wA w)) S 17 [(0, .ref v0), (1, .int v1), (2, .int v2), (3, .int v3)] [] := by
  refine k_iload_n B 3 rfl rfl dX11_addVan_17 ?_
  refine k_iload_n B 2 rfl rfl dX11_addVan_18 ?_
  refine k_sipush (v := 1439) B (by decide) dX11_addVan_19 ?_
  refine tcallS_V (st := []) B ht [.int v3, .int v2, .int 1439] (hc) (va_cwS 3 B.1.2.2.2.2 (gS qlRX11_75 qsX11_needRange qzRX11 qcX11_needRange) rfl rfl rfl (by decide +kernel) ⟨Nat.le_of_ble_eq_true rfl, Nat.le_of_ble_eq_true rfl⟩) rfl (Nat.le_of_ble_eq_true rfl) rfl dX11_addVan_22 ⟨h1, h2⟩ ⟨h1, h2⟩ (kx) (fun S' hp => ?_)
  exact kk S' hp
theorem bX11_addVan_25 (B : Bd p s m args meth c cX11_addVan 4 (wsOf yX11_addVan cX11_addVan 4 (some .int)) RX11 w (some .int) "addVan") (hl : l.stackTraces = false) (ht : ∀ x ∈ c.exceptionTable.toList, False) {v0 : Nat} {v1 : Int32} {v2 : Int32} {v3 : Int32} {x1 : Nat} {post : Int32 → St → Prop} {k n : Nat} {px' : String → St → Prop} {Qc : Array Value → State → Outcome → State → Prop} (h1 : kd S v0 = 13) (h2 : gP S 771 v0 = some x1) (hc : ConI l yJx4a65c_size_8abf5 (wsOf yJx4a65c_size_8abf5 cJx4a65c_size_8abf5 1 (some .int)) rJx4a65c_size_8abf5 w S [.ref x1] post) (h3 : k + 0 ≤ rX11_addVan.cells) (h4 : n + 0 ≤ rX11_addVan.slots) (h5 : kd S x1 = 1) (kk : ∀ (r : Int32) (S' : St), post r S' → K p l e rX11_addVan s m args below meth c 4 w k n (vx_MQ below Qc (XCs w px') args s rX11_addVan.cells rX11_addVan.slots (wA w)) S' 32 [(0, .ref v0), (1, .int v1), (2, .int v2), (3, .int v3)] [.int r]) : K p l e rX11_addVan s m args below meth c 4 w k n (vx_MQ below Qc (XCs w px') args s rX11_addVan.cells rX11_addVan.slots (wA w)) S 25 [(0, .ref v0), (1, .int v1), (2, .int v2), (3, .int v3)] [] := by
  refine k_aload_n B 0 rfl rfl dX11_addVan_25 ?_
  refine k_getP (f := 771) (r := gP S 771 v0) B 12 3 rfl (by decide) rfl (by decide) rfl rfl (fun w h => in_of (uw_12 w h)) (in_of qfRX11_26) dX11_addVan_26 h1 rfl ?_
  rw [h2]; change K _ _ _ _ _ _ _ _ _ _ _ _ _ _ _ _ _ _ (.ref x1 :: _)
  refine callV_I (st := []) B [] (hc) (cwV 0 B.1.2.2.2.2 (gV qlRX11_101 qiJx4a65c_size_8abf5 qeJx4a65c_size_8abf5 qzRJx4a65c qcJx4a65c_size_8abf5) rfl rfl rfl (by decide +kernel) ⟨Nat.le_of_ble_eq_true rfl, Nat.le_of_ble_eq_true rfl⟩) rfl rfl (by decide) h5 (Nat.le_of_ble_eq_true rfl) rfl dX11_addVan_29 ⟨h3, h4⟩ (fun r S' hp => ?_)
  exact kk r S' hp
theorem bX11_addVan_32 (B : Bd p s m args meth c cX11_addVan 4 (wsOf yX11_addVan cX11_addVan 4 (some .int)) RX11 w (some .int) "addVan") (hl : l.stackTraces = false) (ht : ∀ x ∈ c.exceptionTable.toList, False) {v0 : Nat} {v1 : Int32} {v2 : Int32} {v3 : Int32} {t0 : Int32} {px : String → St → Prop} {post : St → Prop} {k n : Nat} {px' : String → St → Prop} {Qc : Array Value → State → Outcome → State → Prop} (hc : ConXV l yX11_needSpace (wsOf yX11_needSpace cX11_needSpace 2 none) rX11_needSpace w S [.int t0, .int 4] post px) (h1 : k + 1 ≤ rX11_addVan.cells) (h2 : n + 6 ≤ rX11_addVan.slots) (kx : ∀ (E : String) (S' : St), px E S' → px' E S') (kk : ∀ (S' : St), post S' → K p l e rX11_addVan s m args below meth c 4 w (k + 1) (n + 6) (vx_MQ below Qc (XCs w px') args s rX11_addVan.cells rX11_addVan.slots (wA w)) S' 36 [(0, .ref v0), (1, .int v1), (2, .int v2), (3, .int v3)] []) : K p l e rX11_addVan s m args below meth c 4 w k n (vx_MQ below Qc (XCs w px') args s rX11_addVan.cells rX11_addVan.slots (wA w)) S 32 [(0, .ref v0), (1, .int v1), (2, .int v2), (3, .int v3)] [.int t0] := by
  refine k_iconst (v := 4) B (by decide) dX11_addVan_32 ?_
  refine tcallS_V (st := []) B ht [.int t0, .int 4] (hc) (va_cwS 2 B.1.2.2.2.2 (gS qlRX11_105 qsX11_needSpace qzRX11 qcX11_needSpace) rfl rfl rfl (by decide +kernel) ⟨Nat.le_of_ble_eq_true rfl, Nat.le_of_ble_eq_true rfl⟩) rfl (Nat.le_of_ble_eq_true rfl) rfl dX11_addVan_33 ⟨h1, h2⟩ ⟨h1, h2⟩ (kx) (fun S' hp => ?_)
  exact kk S' hp
theorem bX11_addVan_36 (B : Bd p s m args meth c cX11_addVan 4 (wsOf yX11_addVan cX11_addVan 4 (some .int)) RX11 w (some .int) "addVan") (hl : l.stackTraces = false) (ht : ∀ x ∈ c.exceptionTable.toList, False) {v0 : Nat} {v1 : Int32} {v2 : Int32} {v3 : Int32} {x1 : Nat} {k n : Nat} {px' : String → St → Prop} {Qc : Array Value → State → Outcome → State → Prop} (h1 : kd S v0 = 13) (h2 : gP S 771 v0 = some x1) (h3 : k + 1 ≤ rX11_addVan.cells) (h4 : n + 5 ≤ rX11_addVan.slots) (kk : ∀ q40 : Nat, kd S q40 = 0 → K p l e rX11_addVan s m args below meth c 4 w (k + 1) (n + 5) (vx_MQ below Qc (XCs w px') args s rX11_addVan.cells rX11_addVan.slots (wA w)) (nw S q40 12 0) 43 [(0, .ref v0), (1, .int v1), (2, .int v2), (3, .int v3)] [.ref q40, .ref x1]) : K p l e rX11_addVan s m args below meth c 4 w k n (vx_MQ below Qc (XCs w px') args s rX11_addVan.cells rX11_addVan.slots (wA w)) S 36 [(0, .ref v0), (1, .int v1), (2, .int v2), (3, .int v3)] [] := by
  refine k_aload_n B 0 rfl rfl dX11_addVan_36 ?_
  refine k_getP (f := 771) (r := gP S 771 v0) B 12 3 rfl (by decide) rfl (by decide) rfl rfl (fun w h => in_of (uw_12 w h)) (in_of qfRX11_26) dX11_addVan_37 h1 rfl ?_
  rw [h2]; change K _ _ _ _ _ _ _ _ _ _ _ _ _ _ _ _ _ _ (.ref x1 :: _)
  refine k_new B 11 rfl rfl (by decide) tyX10 tyX10_ok (by decide +kernel) (fun w h => in_of (uw_11 w h)) (in_of qkRX11_139) (in_of qn11) (in_of qzRX10) h3 h4 dX11_addVan_40 (fun q40 f40 => ?_)
  exact kk q40 f40
theorem bX11_addVan_43 (B : Bd p s m args meth c cX11_addVan 4 (wsOf yX11_addVan cX11_addVan 4 (some .int)) RX11 w (some .int) "addVan") (hl : l.stackTraces = false) (ht : ∀ x ∈ c.exceptionTable.toList, False) {v0 : Nat} {v1 : Int32} {v2 : Int32} {v3 : Int32} {t0 : Nat} {t1 : Nat} {x1 : Nat} {post : Int32 → St → Prop} {k n : Nat} {px' : String → St → Prop} {Qc : Array Value → State → Outcome → State → Prop} (h1 : kd S v0 = 13) (h2 : gP S 771 v0 = some x1) (hc : ConI l yJx4a65c_size_8abf5 (wsOf yJx4a65c_size_8abf5 cJx4a65c_size_8abf5 1 (some .int)) rJx4a65c_size_8abf5 w S [.ref x1] post) (h3 : k + 0 ≤ rX11_addVan.cells) (h4 : n + 0 ≤ rX11_addVan.slots) (h5 : kd S x1 = 1) (kk : ∀ (r : Int32) (S' : St), post r S' → K p l e rX11_addVan s m args below meth c 4 w k n (vx_MQ below Qc (XCs w px') args s rX11_addVan.cells rX11_addVan.slots (wA w)) S' 51 [(0, .ref v0), (1, .int v1), (2, .int v2), (3, .int v3)] [.int r, .ref t1, .ref t1, .ref t0]) : K p l e rX11_addVan s m args below meth c 4 w k n (vx_MQ below Qc (XCs w px') args s rX11_addVan.cells rX11_addVan.slots (wA w)) S 43 [(0, .ref v0), (1, .int v1), (2, .int v2), (3, .int v3)] [.ref t1, .ref t0] := by
  refine k_dup B rfl dX11_addVan_43 ?_
  refine k_aload_n B 0 rfl rfl dX11_addVan_44 ?_
  refine k_getP (f := 771) (r := gP S 771 v0) B 12 3 rfl (by decide) rfl (by decide) rfl rfl (fun w h => in_of (uw_12 w h)) (in_of qfRX11_26) dX11_addVan_45 h1 rfl ?_
  rw [h2]; change K _ _ _ _ _ _ _ _ _ _ _ _ _ _ _ _ _ _ (.ref x1 :: _)
  refine callV_I (st := [.ref t1, .ref t1, .ref t0]) B [] (hc) (cwV 0 B.1.2.2.2.2 (gV qlRX11_101 qiJx4a65c_size_8abf5 qeJx4a65c_size_8abf5 qzRJx4a65c qcJx4a65c_size_8abf5) rfl rfl rfl (by decide +kernel) ⟨Nat.le_of_ble_eq_true rfl, Nat.le_of_ble_eq_true rfl⟩) rfl rfl (by decide) h5 (Nat.le_of_ble_eq_true rfl) rfl dX11_addVan_48 ⟨h3, h4⟩ (fun r S' hp => ?_)
  exact kk r S' hp
theorem bX11_addVan_51 (B : Bd p s m args meth c cX11_addVan 4 (wsOf yX11_addVan cX11_addVan 4 (some .int)) RX11 w (some .int) "addVan") (hl : l.stackTraces = false) (ht : ∀ x ∈ c.exceptionTable.toList, False) {v0 : Nat} {v1 : Int32} {v2 : Int32} {v3 : Int32} {t0 : Nat} {t1 : Nat} {t2 : Nat} {t3 : Int32} {post : St → Prop} {k n : Nat} {px' : String → St → Prop} {Qc : Array Value → State → Outcome → State → Prop} (hc : ConV l yX10_init (wsOf yX10_init cX10_init 5 none) rX10_init w S [.ref t2, .int t3, .int v1, .int v2, .int v3] post) (h1 : k + 2 ≤ rX11_addVan.cells) (h2 : n + 15 ≤ rX11_addVan.slots) (kk : ∀ (S' : St), post S' → K p l e rX11_addVan s m args below meth c 4 w (k + 2) (n + 15) (vx_MQ below Qc (XCs w px') args s rX11_addVan.cells rX11_addVan.slots (wA w)) S' 57 [(0, .ref v0)] [.ref t1, .ref t0]) : K p l e rX11_addVan s m args below meth c 4 w k n (vx_MQ below Qc (XCs w px') args s rX11_addVan.cells rX11_addVan.slots (wA w)) S 51 [(0, .ref v0), (1, .int v1), (2, .int v2), (3, .int v3)] [.int t3, .ref t2, .ref t1, .ref t0] := by
  refine k_iload_n B 1 rfl rfl dX11_addVan_51 ?_
  refine k_iload_n B 2 rfl rfl dX11_addVan_52 ?_
  refine k_iload_n B 3 rfl rfl dX11_addVan_53 ?_
  refine callC_V (st := [.ref t1, .ref t0]) B [.int t3, .int v1, .int v2, .int v3] (hc) (cwI 4 B.1.2.2.2.2 (gB qcX10_init) rfl rfl rfl (B.1.2.2.2.2 _ (in_of qzRX10)) (B.1.2.2.2.2 _ (in_of qlRX11_141)) (B.1.2.2.2.2 _ (in_of qiX10_init)) rfl (by decide +kernel) ⟨Nat.le_of_ble_eq_true rfl, Nat.le_of_ble_eq_true rfl⟩) rfl (Nat.le_of_ble_eq_true rfl) rfl dX11_addVan_54 ⟨h1, h2⟩ (fun S' hp => ?_)
  refine k_sub [0] rfl ?_
  exact kk S' hp
theorem bX11_addVan_57 (B : Bd p s m args meth c cX11_addVan 4 (wsOf yX11_addVan cX11_addVan 4 (some .int)) RX11 w (some .int) "addVan") (hl : l.stackTraces = false) (ht : ∀ x ∈ c.exceptionTable.toList, False) {v0 : Nat} {t0 : Nat} {t1 : Nat} {post : Int32 → St → Prop} {k n : Nat} {px' : String → St → Prop} {Qc : Array Value → State → Outcome → State → Prop} (hc : ConI l yJx4a65c_add_9ea2d (wsOf yJx4a65c_add_9ea2d cJx4a65c_add_9ea2d 2 (some .boolean)) rJx4a65c_add_9ea2d w S [.ref t0, .ref t1] post) (h1 : k + 1 ≤ rX11_addVan.cells) (h2 : n + 40 ≤ rX11_addVan.slots) (h3 : kd S t0 = 1) (kk : ∀ (r : Int32) (S' : St), post r S' → K p l e rX11_addVan s m args below meth c 4 w (k + 1) (n + 40) (vx_MQ below Qc (XCs w px') args s rX11_addVan.cells rX11_addVan.slots (wA w)) S' 60 [(0, .ref v0)] [.int r]) : K p l e rX11_addVan s m args below meth c 4 w k n (vx_MQ below Qc (XCs w px') args s rX11_addVan.cells rX11_addVan.slots (wA w)) S 57 [(0, .ref v0)] [.ref t1, .ref t0] := by
  refine callV_I (st := []) B [.ref t1] (hc) (cwV 1 B.1.2.2.2.2 (gV qlRX11_113 qiJx4a65c_add_9ea2d qeJx4a65c_add_9ea2d qzRJx4a65c qcJx4a65c_add_9ea2d) rfl rfl rfl (by decide +kernel) ⟨Nat.le_of_ble_eq_true rfl, Nat.le_of_ble_eq_true rfl⟩) rfl rfl (by decide) h3 (Nat.le_of_ble_eq_true rfl) rfl dX11_addVan_57 ⟨h1, h2⟩ (fun r S' hp => ?_)
  exact kk r S' hp
theorem bX11_addVan_60 (B : Bd p s m args meth c cX11_addVan 4 (wsOf yX11_addVan cX11_addVan 4 (some .int)) RX11 w (some .int) "addVan") (hl : l.stackTraces = false) (ht : ∀ x ∈ c.exceptionTable.toList, False) {v0 : Nat} {t0 : Int32} {x1 : Nat} {post : Int32 → St → Prop} {k n : Nat} {px' : String → St → Prop} {Qc : Array Value → State → Outcome → State → Prop} (h1 : kd S v0 = 13) (h2 : gP S 771 v0 = some x1) (hc : ConI l yJx4a65c_size_8abf5 (wsOf yJx4a65c_size_8abf5 cJx4a65c_size_8abf5 1 (some .int)) rJx4a65c_size_8abf5 w S [.ref x1] post) (h3 : k + 0 ≤ rX11_addVan.cells) (h4 : n + 0 ≤ rX11_addVan.slots) (h5 : kd S x1 = 1) (kk : ∀ (r : Int32) (S' : St), post r S' → K p l e rX11_addVan s m args below meth c 4 w k n (vx_MQ below Qc (XCs w px') args s rX11_addVan.cells rX11_addVan.slots (wA w)) S' 68 [] [.int r]) : K p l e rX11_addVan s m args below meth c 4 w k n (vx_MQ below Qc (XCs w px') args s rX11_addVan.cells rX11_addVan.slots (wA w)) S 60 [(0, .ref v0)] [.int t0] := by
  refine k_pop B rfl dX11_addVan_60 ?_
  refine k_aload_n B 0 rfl rfl dX11_addVan_61 ?_
  refine k_getP (f := 771) (r := gP S 771 v0) B 12 3 rfl (by decide) rfl (by decide) rfl rfl (fun w h => in_of (uw_12 w h)) (in_of qfRX11_26) dX11_addVan_62 h1 rfl ?_
  rw [h2]; change K _ _ _ _ _ _ _ _ _ _ _ _ _ _ _ _ _ _ (.ref x1 :: _)
  refine callV_I (st := []) B [] (hc) (cwV 0 B.1.2.2.2.2 (gV qlRX11_101 qiJx4a65c_size_8abf5 qeJx4a65c_size_8abf5 qzRJx4a65c qcJx4a65c_size_8abf5) rfl rfl rfl (by decide +kernel) ⟨Nat.le_of_ble_eq_true rfl, Nat.le_of_ble_eq_true rfl⟩) rfl rfl (by decide) h5 (Nat.le_of_ble_eq_true rfl) rfl dX11_addVan_65 ⟨h3, h4⟩ (fun r S' hp => ?_)
  refine k_sub [] rfl ?_
  exact kk r S' hp
theorem bX11_addVan_68 (B : Bd p s m args meth c cX11_addVan 4 (wsOf yX11_addVan cX11_addVan 4 (some .int)) RX11 w (some .int) "addVan") (hl : l.stackTraces = false) (ht : ∀ x ∈ c.exceptionTable.toList, False) {t0 : Int32} {post : Int32 → St → Prop} {k n : Nat} {px' : String → St → Prop} (h1 : k ≤ rX11_addVan.cells) (h2 : n ≤ rX11_addVan.slots) (hq : post (t0 - 1) S) : K p l e rX11_addVan s m args below meth c 4 w k n (vx_MQ below (va_Qi post (fun S' t => Hd w S' t.heap) (wA w)) (XCs w px') args s rX11_addVan.cells rX11_addVan.slots (wA w)) S 68 [] [.int t0] := by
  refine k_iconst (v := 1) B (by decide) dX11_addVan_68 ?_
  refine k_isub B dX11_addVan_69 ?_
  exact k_xret_I h1 h2 (ret_I B rfl dX11_addVan_70 (hq))
theorem bX11_addParcel_0 (B : Bd p s m args meth c cX11_addParcel 6 (wsOf yX11_addParcel cX11_addParcel 6 (some .int)) RX11 w (some .int) "addParcel") (hl : l.stackTraces = false) (ht : ∀ x ∈ c.exceptionTable.toList, False) {v0 : Nat} {v1 : Int32} {v2 : Int32} {v3 : Int32} {v4 : Int32} {v5 : Int32} {px : String → St → Prop} {post : St → Prop} {k n : Nat} {px' : String → St → Prop} {Qc : Array Value → State → Outcome → State → Prop} (hc : ConXV l yX11_needRange (wsOf yX11_needRange cX11_needRange 3 none) rX11_needRange w S [.int v1, .int 0, .int 2] post px) (h1 : k + 1 ≤ rX11_addParcel.cells) (h2 : n + 6 ≤ rX11_addParcel.slots) (kx : ∀ (E : String) (S' : St), px E S' → px' E S') (kk : ∀ (S' : St), post S' → K p l e rX11_addParcel s m args below meth c 6 w (k + 1) (n + 6) (vx_MQ below Qc (XCs w px') args s rX11_addParcel.cells rX11_addParcel.slots (wA w)) S' 6 [(0, .ref v0), (1, .int v1), (2, .int v2), (3, .int v3), (4, .int v4), (5, .int v5)] []) : K p l e rX11_addParcel s m args below meth c 6 w k n (vx_MQ below Qc (XCs w px') args s rX11_addParcel.cells rX11_addParcel.slots (wA w)) S 0 [(0, .ref v0), (1, .int v1), (2, .int v2), (3, .int v3), (4, .int v4), (5, .int v5)] [] := by
  refine k_iload_n B 1 rfl rfl dX11_addParcel_0 ?_
  refine k_iconst (v := 0) B (by decide) dX11_addParcel_1 ?_
  refine k_iconst (v := 2) B (by decide) dX11_addParcel_2 ?_
  refine tcallS_V (st := []) B ht [.int v1, .int 0, .int 2] (hc) (va_cwS 3 B.1.2.2.2.2 (gS qlRX11_75 qsX11_needRange qzRX11 qcX11_needRange) rfl rfl rfl (by decide +kernel) ⟨Nat.le_of_ble_eq_true rfl, Nat.le_of_ble_eq_true rfl⟩) rfl (Nat.le_of_ble_eq_true rfl) rfl dX11_addParcel_3 ⟨h1, h2⟩ ⟨h1, h2⟩ (kx) (fun S' hp => ?_)
  exact kk S' hp
theorem bX11_addParcel_6 (B : Bd p s m args meth c cX11_addParcel 6 (wsOf yX11_addParcel cX11_addParcel 6 (some .int)) RX11 w (some .int) "addParcel") (hl : l.stackTraces = false) (ht : ∀ x ∈ c.exceptionTable.toList, False) {v0 : Nat} {v1 : Int32} {v2 : Int32} {v3 : Int32} {v4 : Int32} {v5 : Int32} {px : String → St → Prop} {post : St → Prop} {k n : Nat} {px' : String → St → Prop} {Qc : Array Value → State → Outcome → State → Prop} (hc : ConXV l yX11_needRange (wsOf yX11_needRange cX11_needRange 3 none) rX11_needRange w S [.int v2, .int 1, .int 40] post px) (h1 : k + 1 ≤ rX11_addParcel.cells) (h2 : n + 6 ≤ rX11_addParcel.slots) (kx : ∀ (E : String) (S' : St), px E S' → px' E S') (kk : ∀ (S' : St), post S' → K p l e rX11_addParcel s m args below meth c 6 w (k + 1) (n + 6) (vx_MQ below Qc (XCs w px') args s rX11_addParcel.cells rX11_addParcel.slots (wA w)) S' 13 [(0, .ref v0), (1, .int v1), (2, .int v2), (3, .int v3), (4, .int v4), (5, .int v5)] []) : K p l e rX11_addParcel s m args below meth c 6 w k n (vx_MQ below Qc (XCs w px') args s rX11_addParcel.cells rX11_addParcel.slots (wA w)) S 6 [(0, .ref v0), (1, .int v1), (2, .int v2), (3, .int v3), (4, .int v4), (5, .int v5)] [] := by
  refine k_iload_n B 2 rfl rfl dX11_addParcel_6 ?_
  refine k_iconst (v := 1) B (by decide) dX11_addParcel_7 ?_
  refine k_bipush (v := 40) B (by decide) dX11_addParcel_8 ?_
  refine tcallS_V (st := []) B ht [.int v2, .int 1, .int 40] (hc) (va_cwS 3 B.1.2.2.2.2 (gS qlRX11_75 qsX11_needRange qzRX11 qcX11_needRange) rfl rfl rfl (by decide +kernel) ⟨Nat.le_of_ble_eq_true rfl, Nat.le_of_ble_eq_true rfl⟩) rfl (Nat.le_of_ble_eq_true rfl) rfl dX11_addParcel_10 ⟨h1, h2⟩ ⟨h1, h2⟩ (kx) (fun S' hp => ?_)
  exact kk S' hp
theorem bX11_addParcel_13 (B : Bd p s m args meth c cX11_addParcel 6 (wsOf yX11_addParcel cX11_addParcel 6 (some .int)) RX11 w (some .int) "addParcel") (hl : l.stackTraces = false) (ht : ∀ x ∈ c.exceptionTable.toList, False) {v0 : Nat} {v1 : Int32} {v2 : Int32} {v3 : Int32} {v4 : Int32} {v5 : Int32} {px : String → St → Prop} {post : St → Prop} {k n : Nat} {px' : String → St → Prop} {Qc : Array Value → State → Outcome → State → Prop} (hc : ConXV l yX11_needRange (wsOf yX11_needRange cX11_needRange 3 none) rX11_needRange w S [.int v4, .int 0, .int 1439] post px) (h1 : k + 1 ≤ rX11_addParcel.cells) (h2 : n + 6 ≤ rX11_addParcel.slots) (kx : ∀ (E : String) (S' : St), px E S' → px' E S') (kk : ∀ (S' : St), post S' → K p l e rX11_addParcel s m args below meth c 6 w (k + 1) (n + 6) (vx_MQ below Qc (XCs w px') args s rX11_addParcel.cells rX11_addParcel.slots (wA w)) S' 22 [(0, .ref v0), (1, .int v1), (2, .int v2), (3, .int v3), (4, .int v4), (5, .int v5)] []) : K p l e rX11_addParcel s m args below meth c 6 w k n (vx_MQ below Qc (XCs w px') args s rX11_addParcel.cells rX11_addParcel.slots (wA w)) S 13 [(0, .ref v0), (1, .int v1), (2, .int v2), (3, .int v3), (4, .int v4), (5, .int v5)] [] := by
  refine k_iload B 4 rfl dX11_addParcel_13 ?_
  refine k_iconst (v := 0) B (by decide) dX11_addParcel_15 ?_
  refine k_sipush (v := 1439) B (by decide) dX11_addParcel_16 ?_
  refine tcallS_V (st := []) B ht [.int v4, .int 0, .int 1439] (hc) (va_cwS 3 B.1.2.2.2.2 (gS qlRX11_75 qsX11_needRange qzRX11 qcX11_needRange) rfl rfl rfl (by decide +kernel) ⟨Nat.le_of_ble_eq_true rfl, Nat.le_of_ble_eq_true rfl⟩) rfl (Nat.le_of_ble_eq_true rfl) rfl dX11_addParcel_19 ⟨h1, h2⟩ ⟨h1, h2⟩ (kx) (fun S' hp => ?_)
  exact kk S' hp
theorem bX11_addParcel_22 (B : Bd p s m args meth c cX11_addParcel 6 (wsOf yX11_addParcel cX11_addParcel 6 (some .int)) RX11 w (some .int) "addParcel") (hl : l.stackTraces = false) (ht : ∀ x ∈ c.exceptionTable.toList, False) {v0 : Nat} {v1 : Int32} {v2 : Int32} {v3 : Int32} {v4 : Int32} {v5 : Int32} {px : String → St → Prop} {post : St → Prop} {k n : Nat} {px' : String → St → Prop} {Qc : Array Value → State → Outcome → State → Prop} (hc : ConXV l yX11_needRange (wsOf yX11_needRange cX11_needRange 3 none) rX11_needRange w S [.int v5, .int v4, .int 1439] post px) (h1 : k + 1 ≤ rX11_addParcel.cells) (h2 : n + 6 ≤ rX11_addParcel.slots) (kx : ∀ (E : String) (S' : St), px E S' → px' E S') (kk : ∀ (S' : St), post S' → K p l e rX11_addParcel s m args below meth c 6 w (k + 1) (n + 6) (vx_MQ below Qc (XCs w px') args s rX11_addParcel.cells rX11_addParcel.slots (wA w)) S' 32 [(0, .ref v0), (1, .int v1), (2, .int v2), (3, .int v3), (4, .int v4), (5, .int v5)] []) : K p l e rX11_addParcel s m args below meth c 6 w k n (vx_MQ below Qc (XCs w px') args s rX11_addParcel.cells rX11_addParcel.slots (wA w)) S 22 [(0, .ref v0), (1, .int v1), (2, .int v2), (3, .int v3), (4, .int v4), (5, .int v5)] [] := by
  refine k_iload B 5 rfl dX11_addParcel_22 ?_
  refine k_iload B 4 rfl dX11_addParcel_24 ?_
  refine k_sipush (v := 1439) B (by decide) dX11_addParcel_26 ?_
  refine tcallS_V (st := []) B ht [.int v5, .int v4, .int 1439] (hc) (va_cwS 3 B.1.2.2.2.2 (gS qlRX11_75 qsX11_needRange qzRX11 qcX11_needRange) rfl rfl rfl (by decide +kernel) ⟨Nat.le_of_ble_eq_true rfl, Nat.le_of_ble_eq_true rfl⟩) rfl (Nat.le_of_ble_eq_true rfl) rfl dX11_addParcel_29 ⟨h1, h2⟩ ⟨h1, h2⟩ (kx) (fun S' hp => ?_)
  exact kk S' hp
theorem bX11_addParcel_32 (B : Bd p s m args meth c cX11_addParcel 6 (wsOf yX11_addParcel cX11_addParcel 6 (some .int)) RX11 w (some .int) "addParcel") (hl : l.stackTraces = false) (ht : ∀ x ∈ c.exceptionTable.toList, False) {v0 : Nat} {v1 : Int32} {v2 : Int32} {v3 : Int32} {v4 : Int32} {v5 : Int32} {x1 : Nat} {post : Int32 → St → Prop} {k n : Nat} {px' : String → St → Prop} {Qc : Array Value → State → Outcome → State → Prop} (h1 : kd S v0 = 13) (h2 : gP S 769 v0 = some x1) (hc : ConI l yJx4a65c_size_8abf5 (wsOf yJx4a65c_size_8abf5 cJx4a65c_size_8abf5 1 (some .int)) rJx4a65c_size_8abf5 w S [.ref x1] post) (h3 : k + 0 ≤ rX11_addParcel.cells) (h4 : n + 0 ≤ rX11_addParcel.slots) (h5 : kd S x1 = 1) (kk : ∀ (r : Int32) (S' : St), post r S' → K p l e rX11_addParcel s m args below meth c 6 w k n (vx_MQ below Qc (XCs w px') args s rX11_addParcel.cells rX11_addParcel.slots (wA w)) S' 40 [(0, .ref v0), (1, .int v1), (2, .int v2), (3, .int v3), (4, .int v4), (5, .int v5)] [.int r, .int v3]) : K p l e rX11_addParcel s m args below meth c 6 w k n (vx_MQ below Qc (XCs w px') args s rX11_addParcel.cells rX11_addParcel.slots (wA w)) S 32 [(0, .ref v0), (1, .int v1), (2, .int v2), (3, .int v3), (4, .int v4), (5, .int v5)] [] := by
  refine k_iload_n B 3 rfl rfl dX11_addParcel_32 ?_
  refine k_aload_n B 0 rfl rfl dX11_addParcel_33 ?_
  refine k_getP (f := 769) (r := gP S 769 v0) B 12 1 rfl (by decide) rfl (by decide) rfl rfl (fun w h => in_of (uw_12 w h)) (in_of qfRX11_19) dX11_addParcel_34 h1 rfl ?_
  rw [h2]; change K _ _ _ _ _ _ _ _ _ _ _ _ _ _ _ _ _ _ (.ref x1 :: _)
  refine callV_I (st := [.int v3]) B [] (hc) (cwV 0 B.1.2.2.2.2 (gV qlRX11_101 qiJx4a65c_size_8abf5 qeJx4a65c_size_8abf5 qzRJx4a65c qcJx4a65c_size_8abf5) rfl rfl rfl (by decide +kernel) ⟨Nat.le_of_ble_eq_true rfl, Nat.le_of_ble_eq_true rfl⟩) rfl rfl (by decide) h5 (Nat.le_of_ble_eq_true rfl) rfl dX11_addParcel_37 ⟨h3, h4⟩ (fun r S' hp => ?_)
  exact kk r S' hp
theorem bX11_addParcel_40 (B : Bd p s m args meth c cX11_addParcel 6 (wsOf yX11_addParcel cX11_addParcel 6 (some .int)) RX11 w (some .int) "addParcel") (hl : l.stackTraces = false) (ht : ∀ x ∈ c.exceptionTable.toList, False) {v0 : Nat} {v1 : Int32} {v2 : Int32} {v3 : Int32} {v4 : Int32} {v5 : Int32} {t0 : Int32} {t1 : Int32} {px : String → St → Prop} {post : St → Prop} {k n : Nat} {px' : String → St → Prop} {Qc : Array Value → State → Outcome → State → Prop} (hc : ConXV l yX11_needIndex (wsOf yX11_needIndex cX11_needIndex 2 none) rX11_needIndex w S [.int t0, .int t1] post px) (h1 : k + 1 ≤ rX11_addParcel.cells) (h2 : n + 6 ≤ rX11_addParcel.slots) (kx : ∀ (E : String) (S' : St), px E S' → px' E S') (kk : ∀ (S' : St), post S' → K p l e rX11_addParcel s m args below meth c 6 w (k + 1) (n + 6) (vx_MQ below Qc (XCs w px') args s rX11_addParcel.cells rX11_addParcel.slots (wA w)) S' 43 [(0, .ref v0), (1, .int v1), (2, .int v2), (3, .int v3), (4, .int v4), (5, .int v5)] []) : K p l e rX11_addParcel s m args below meth c 6 w k n (vx_MQ below Qc (XCs w px') args s rX11_addParcel.cells rX11_addParcel.slots (wA w)) S 40 [(0, .ref v0), (1, .int v1), (2, .int v2), (3, .int v3), (4, .int v4), (5, .int v5)] [.int t1, .int t0] := by
  refine tcallS_V (st := []) B ht [.int t0, .int t1] (hc) (va_cwS 2 B.1.2.2.2.2 (gS qlRX11_71 qsX11_needIndex qzRX11 qcX11_needIndex) rfl rfl rfl (by decide +kernel) ⟨Nat.le_of_ble_eq_true rfl, Nat.le_of_ble_eq_true rfl⟩) rfl (Nat.le_of_ble_eq_true rfl) rfl dX11_addParcel_40 ⟨h1, h2⟩ ⟨h1, h2⟩ (kx) (fun S' hp => ?_)
  exact kk S' hp
theorem bX11_addParcel_43 (B : Bd p s m args meth c cX11_addParcel 6 (wsOf yX11_addParcel cX11_addParcel 6 (some .int)) RX11 w (some .int) "addParcel") (hl : l.stackTraces = false) (ht : ∀ x ∈ c.exceptionTable.toList, False) {v0 : Nat} {v1 : Int32} {v2 : Int32} {v3 : Int32} {v4 : Int32} {v5 : Int32} {x1 : Nat} {post : Int32 → St → Prop} {k n : Nat} {px' : String → St → Prop} {Qc : Array Value → State → Outcome → State → Prop} (h1 : kd S v0 = 13) (h2 : gP S 772 v0 = some x1) (hc : ConI l yJx4a65c_size_8abf5 (wsOf yJx4a65c_size_8abf5 cJx4a65c_size_8abf5 1 (some .int)) rJx4a65c_size_8abf5 w S [.ref x1] post) (h3 : k + 0 ≤ rX11_addParcel.cells) (h4 : n + 0 ≤ rX11_addParcel.slots) (h5 : kd S x1 = 1) (kk : ∀ (r : Int32) (S' : St), post r S' → K p l e rX11_addParcel s m args below meth c 6 w k n (vx_MQ below Qc (XCs w px') args s rX11_addParcel.cells rX11_addParcel.slots (wA w)) S' 50 [(0, .ref v0), (1, .int v1), (2, .int v2), (3, .int v3), (4, .int v4), (5, .int v5)] [.int r]) : K p l e rX11_addParcel s m args below meth c 6 w k n (vx_MQ below Qc (XCs w px') args s rX11_addParcel.cells rX11_addParcel.slots (wA w)) S 43 [(0, .ref v0), (1, .int v1), (2, .int v2), (3, .int v3), (4, .int v4), (5, .int v5)] [] := by
  refine k_aload_n B 0 rfl rfl dX11_addParcel_43 ?_
  refine k_getP (f := 772) (r := gP S 772 v0) B 12 4 rfl (by decide) rfl (by decide) rfl rfl (fun w h => in_of (uw_12 w h)) (in_of qfRX11_29) dX11_addParcel_44 h1 rfl ?_
  rw [h2]; change K _ _ _ _ _ _ _ _ _ _ _ _ _ _ _ _ _ _ (.ref x1 :: _)
  refine callV_I (st := []) B [] (hc) (cwV 0 B.1.2.2.2.2 (gV qlRX11_101 qiJx4a65c_size_8abf5 qeJx4a65c_size_8abf5 qzRJx4a65c qcJx4a65c_size_8abf5) rfl rfl rfl (by decide +kernel) ⟨Nat.le_of_ble_eq_true rfl, Nat.le_of_ble_eq_true rfl⟩) rfl rfl (by decide) h5 (Nat.le_of_ble_eq_true rfl) rfl dX11_addParcel_47 ⟨h3, h4⟩ (fun r S' hp => ?_)
  exact kk r S' hp
theorem bX11_addParcel_50 (B : Bd p s m args meth c cX11_addParcel 6 (wsOf yX11_addParcel cX11_addParcel 6 (some .int)) RX11 w (some .int) "addParcel") (hl : l.stackTraces = false) (ht : ∀ x ∈ c.exceptionTable.toList, False) {v0 : Nat} {v1 : Int32} {v2 : Int32} {v3 : Int32} {v4 : Int32} {v5 : Int32} {t0 : Int32} {px : String → St → Prop} {post : St → Prop} {k n : Nat} {px' : String → St → Prop} {Qc : Array Value → State → Outcome → State → Prop} (hc : ConXV l yX11_needSpace (wsOf yX11_needSpace cX11_needSpace 2 none) rX11_needSpace w S [.int t0, .int 30] post px) (h1 : k + 1 ≤ rX11_addParcel.cells) (h2 : n + 6 ≤ rX11_addParcel.slots) (kx : ∀ (E : String) (S' : St), px E S' → px' E S') (kk : ∀ (S' : St), post S' → K p l e rX11_addParcel s m args below meth c 6 w (k + 1) (n + 6) (vx_MQ below Qc (XCs w px') args s rX11_addParcel.cells rX11_addParcel.slots (wA w)) S' 55 [(0, .ref v0), (1, .int v1), (2, .int v2), (3, .int v3), (4, .int v4), (5, .int v5)] []) : K p l e rX11_addParcel s m args below meth c 6 w k n (vx_MQ below Qc (XCs w px') args s rX11_addParcel.cells rX11_addParcel.slots (wA w)) S 50 [(0, .ref v0), (1, .int v1), (2, .int v2), (3, .int v3), (4, .int v4), (5, .int v5)] [.int t0] := by
  refine k_bipush (v := 30) B (by decide) dX11_addParcel_50 ?_
  refine tcallS_V (st := []) B ht [.int t0, .int 30] (hc) (va_cwS 2 B.1.2.2.2.2 (gS qlRX11_105 qsX11_needSpace qzRX11 qcX11_needSpace) rfl rfl rfl (by decide +kernel) ⟨Nat.le_of_ble_eq_true rfl, Nat.le_of_ble_eq_true rfl⟩) rfl (Nat.le_of_ble_eq_true rfl) rfl dX11_addParcel_52 ⟨h1, h2⟩ ⟨h1, h2⟩ (kx) (fun S' hp => ?_)
  exact kk S' hp
theorem bX11_addParcel_55 (B : Bd p s m args meth c cX11_addParcel 6 (wsOf yX11_addParcel cX11_addParcel 6 (some .int)) RX11 w (some .int) "addParcel") (hl : l.stackTraces = false) (ht : ∀ x ∈ c.exceptionTable.toList, False) {v0 : Nat} {v1 : Int32} {v2 : Int32} {v3 : Int32} {v4 : Int32} {v5 : Int32} {x1 : Nat} {k n : Nat} {px' : String → St → Prop} {Qc : Array Value → State → Outcome → State → Prop} (h1 : kd S v0 = 13) (h2 : gP S 772 v0 = some x1) (h3 : k + 1 ≤ rX11_addParcel.cells) (h4 : n + 14 ≤ rX11_addParcel.slots) (kk : ∀ q59 : Nat, kd S q59 = 0 → K p l e rX11_addParcel s m args below meth c 6 w (k + 1) (n + 14) (vx_MQ below Qc (XCs w px') args s rX11_addParcel.cells rX11_addParcel.slots (wA w)) (nw S q59 5 0) 62 [(0, .ref v0), (1, .int v1), (2, .int v2), (3, .int v3), (4, .int v4), (5, .int v5)] [.ref q59, .ref x1]) : K p l e rX11_addParcel s m args below meth c 6 w k n (vx_MQ below Qc (XCs w px') args s rX11_addParcel.cells rX11_addParcel.slots (wA w)) S 55 [(0, .ref v0), (1, .int v1), (2, .int v2), (3, .int v3), (4, .int v4), (5, .int v5)] [] := by
  refine k_aload_n B 0 rfl rfl dX11_addParcel_55 ?_
  refine k_getP (f := 772) (r := gP S 772 v0) B 12 4 rfl (by decide) rfl (by decide) rfl rfl (fun w h => in_of (uw_12 w h)) (in_of qfRX11_29) dX11_addParcel_56 h1 rfl ?_
  rw [h2]; change K _ _ _ _ _ _ _ _ _ _ _ _ _ _ _ _ _ _ (.ref x1 :: _)
  refine k_new B 4 rfl rfl (by decide) tyX3 tyX3_ok (by decide +kernel) (fun w h => in_of (uw_4 w h)) (in_of qkRX11_144) (in_of qn4) (in_of qzRX3) h3 h4 dX11_addParcel_59 (fun q59 f59 => ?_)
  exact kk q59 f59
theorem bX11_addParcel_62 (B : Bd p s m args meth c cX11_addParcel 6 (wsOf yX11_addParcel cX11_addParcel 6 (some .int)) RX11 w (some .int) "addParcel") (hl : l.stackTraces = false) (ht : ∀ x ∈ c.exceptionTable.toList, False) {v0 : Nat} {v1 : Int32} {v2 : Int32} {v3 : Int32} {v4 : Int32} {v5 : Int32} {t0 : Nat} {t1 : Nat} {x1 : Nat} {post : Int32 → St → Prop} {k n : Nat} {px' : String → St → Prop} {Qc : Array Value → State → Outcome → State → Prop} (h1 : kd S v0 = 13) (h2 : gP S 772 v0 = some x1) (hc : ConI l yJx4a65c_size_8abf5 (wsOf yJx4a65c_size_8abf5 cJx4a65c_size_8abf5 1 (some .int)) rJx4a65c_size_8abf5 w S [.ref x1] post) (h3 : k + 0 ≤ rX11_addParcel.cells) (h4 : n + 0 ≤ rX11_addParcel.slots) (h5 : kd S x1 = 1) (kk : ∀ (r : Int32) (S' : St), post r S' → K p l e rX11_addParcel s m args below meth c 6 w k n (vx_MQ below Qc (XCs w px') args s rX11_addParcel.cells rX11_addParcel.slots (wA w)) S' 70 [(0, .ref v0), (1, .int v1), (2, .int v2), (3, .int v3), (4, .int v4), (5, .int v5)] [.int r, .ref t1, .ref t1, .ref t0]) : K p l e rX11_addParcel s m args below meth c 6 w k n (vx_MQ below Qc (XCs w px') args s rX11_addParcel.cells rX11_addParcel.slots (wA w)) S 62 [(0, .ref v0), (1, .int v1), (2, .int v2), (3, .int v3), (4, .int v4), (5, .int v5)] [.ref t1, .ref t0] := by
  refine k_dup B rfl dX11_addParcel_62 ?_
  refine k_aload_n B 0 rfl rfl dX11_addParcel_63 ?_
  refine k_getP (f := 772) (r := gP S 772 v0) B 12 4 rfl (by decide) rfl (by decide) rfl rfl (fun w h => in_of (uw_12 w h)) (in_of qfRX11_29) dX11_addParcel_64 h1 rfl ?_
  rw [h2]; change K _ _ _ _ _ _ _ _ _ _ _ _ _ _ _ _ _ _ (.ref x1 :: _)
  refine callV_I (st := [.ref t1, .ref t1, .ref t0]) B [] (hc) (cwV 0 B.1.2.2.2.2 (gV qlRX11_101 qiJx4a65c_size_8abf5 qeJx4a65c_size_8abf5 qzRJx4a65c qcJx4a65c_size_8abf5) rfl rfl rfl (by decide +kernel) ⟨Nat.le_of_ble_eq_true rfl, Nat.le_of_ble_eq_true rfl⟩) rfl rfl (by decide) h5 (Nat.le_of_ble_eq_true rfl) rfl dX11_addParcel_67 ⟨h3, h4⟩ (fun r S' hp => ?_)
  exact kk r S' hp
theorem bX11_addParcel_70 (B : Bd p s m args meth c cX11_addParcel 6 (wsOf yX11_addParcel cX11_addParcel 6 (some .int)) RX11 w (some .int) "addParcel") (hl : l.stackTraces = false) (ht : ∀ x ∈ c.exceptionTable.toList, False) {v0 : Nat} {v1 : Int32} {v2 : Int32} {v3 : Int32} {v4 : Int32} {v5 : Int32} {t0 : Nat} {t1 : Nat} {t2 : Nat} {t3 : Int32} {x1 : Nat} {post : Nat → St → Prop} {k n : Nat} {px' : String → St → Prop} {Qc : Array Value → State → Outcome → State → Prop} (h1 : kd S v0 = 13) (h2 : gP S 769 v0 = some x1) (hc : ConR l yJx4a65c_get_915e3 (wsOf yJx4a65c_get_915e3 cJx4a65c_get_915e3 2 (some (.object "java/lang/Object"))) rJx4a65c_get_915e3 w S [.ref x1, .int v3] post) (h3 : k + 0 ≤ rX11_addParcel.cells) (h4 : n + 0 ≤ rX11_addParcel.slots) (h5 : kd S x1 = 1) (kk : ∀ (r : Nat) (S' : St), post r S' → K p l e rX11_addParcel s m args below meth c 6 w k n (vx_MQ below Qc (XCs w px') args s rX11_addParcel.cells rX11_addParcel.slots (wA w)) S' 81 [(0, .ref v0), (4, .int v4), (5, .int v5)] [.ref r, .int v3, .int v2, .int v1, .int t3, .ref t2, .ref t1, .ref t0]) : K p l e rX11_addParcel s m args below meth c 6 w k n (vx_MQ below Qc (XCs w px') args s rX11_addParcel.cells rX11_addParcel.slots (wA w)) S 70 [(0, .ref v0), (1, .int v1), (2, .int v2), (3, .int v3), (4, .int v4), (5, .int v5)] [.int t3, .ref t2, .ref t1, .ref t0] := by
  refine k_iload_n B 1 rfl rfl dX11_addParcel_70 ?_
  refine k_iload_n B 2 rfl rfl dX11_addParcel_71 ?_
  refine k_iload_n B 3 rfl rfl dX11_addParcel_72 ?_
  refine k_aload_n B 0 rfl rfl dX11_addParcel_73 ?_
  refine k_getP (f := 769) (r := gP S 769 v0) B 12 1 rfl (by decide) rfl (by decide) rfl rfl (fun w h => in_of (uw_12 w h)) (in_of qfRX11_19) dX11_addParcel_74 h1 rfl ?_
  rw [h2]; change K _ _ _ _ _ _ _ _ _ _ _ _ _ _ _ _ _ _ (.ref x1 :: _)
  refine k_iload_n B 3 rfl rfl dX11_addParcel_77 ?_
  refine callV_R (st := [.int v3, .int v2, .int v1, .int t3, .ref t2, .ref t1, .ref t0]) B [.int v3] (hc) (cwV 1 B.1.2.2.2.2 (gV qlRX11_124 qiJx4a65c_get_915e3 qeJx4a65c_get_915e3 qzRJx4a65c qcJx4a65c_get_915e3) rfl rfl rfl (by decide +kernel) ⟨Nat.le_of_ble_eq_true rfl, Nat.le_of_ble_eq_true rfl⟩) rfl rfl (by decide) h5 (Nat.le_of_ble_eq_true rfl) rfl dX11_addParcel_78 ⟨h3, h4⟩ (fun r S' hp => ?_)
  refine k_sub [0, 4, 5] rfl ?_
  exact kk r S' hp
theorem bX11_addParcel_81 (B : Bd p s m args meth c cX11_addParcel 6 (wsOf yX11_addParcel cX11_addParcel 6 (some .int)) RX11 w (some .int) "addParcel") (hl : l.stackTraces = false) (ht : ∀ x ∈ c.exceptionTable.toList, False) {v0 : Nat} {v4 : Int32} {v5 : Int32} {t0 : Nat} {t1 : Nat} {t2 : Nat} {t3 : Int32} {t4 : Int32} {t5 : Int32} {t6 : Int32} {t7 : Nat} {post : St → Prop} {k n : Nat} {px' : String → St → Prop} {Qc : Array Value → State → Outcome → State → Prop} (h1 : kd S t7 = 3) (hc : ConV l yX3_init (wsOf yX3_init cX3_init 8 none) rX3_init w S [.ref t2, .int t3, .int t4, .int t5, .int t6, .ref t7, .int v4, .int v5] post) (h2 : k + 1 ≤ rX11_addParcel.cells) (h3 : n + 5 ≤ rX11_addParcel.slots) (kk : ∀ (S' : St), post S' → K p l e rX11_addParcel s m args below meth c 6 w (k + 1) (n + 5) (vx_MQ below Qc (XCs w px') args s rX11_addParcel.cells rX11_addParcel.slots (wA w)) S' 91 [(0, .ref v0)] [.ref t1, .ref t0]) : K p l e rX11_addParcel s m args below meth c 6 w k n (vx_MQ below Qc (XCs w px') args s rX11_addParcel.cells rX11_addParcel.slots (wA w)) S 81 [(0, .ref v0), (4, .int v4), (5, .int v5)] [.ref t7, .int t6, .int t5, .int t4, .int t3, .ref t2, .ref t1, .ref t0] := by
  refine k_cast B 2 rfl (by decide) (in_of qkRX11_108) dX11_addParcel_81 h1 ?_
  refine k_iload B 1 rfl dX11_addParcel_84 ?_
  refine k_iload B 2 rfl dX11_addParcel_86 ?_
  refine callC_V (st := [.ref t1, .ref t0]) B [.int t3, .int t4, .int t5, .int t6, .ref t7, .int v4, .int v5] (hc) (cwI 7 B.1.2.2.2.2 (gB qcX3_init) rfl rfl rfl (B.1.2.2.2.2 _ (in_of qzRX3)) (B.1.2.2.2.2 _ (in_of qlRX11_146)) (B.1.2.2.2.2 _ (in_of qiX3_init)) rfl (by decide +kernel) ⟨Nat.le_of_ble_eq_true rfl, Nat.le_of_ble_eq_true rfl⟩) rfl (Nat.le_of_ble_eq_true rfl) rfl dX11_addParcel_88 ⟨h2, h3⟩ (fun S' hp => ?_)
  refine k_sub [0] rfl ?_
  exact kk S' hp
theorem bX11_addParcel_91 (B : Bd p s m args meth c cX11_addParcel 6 (wsOf yX11_addParcel cX11_addParcel 6 (some .int)) RX11 w (some .int) "addParcel") (hl : l.stackTraces = false) (ht : ∀ x ∈ c.exceptionTable.toList, False) {v0 : Nat} {t0 : Nat} {t1 : Nat} {post : Int32 → St → Prop} {k n : Nat} {px' : String → St → Prop} {Qc : Array Value → State → Outcome → State → Prop} (hc : ConI l yJx4a65c_add_9ea2d (wsOf yJx4a65c_add_9ea2d cJx4a65c_add_9ea2d 2 (some .boolean)) rJx4a65c_add_9ea2d w S [.ref t0, .ref t1] post) (h1 : k + 1 ≤ rX11_addParcel.cells) (h2 : n + 40 ≤ rX11_addParcel.slots) (h3 : kd S t0 = 1) (kk : ∀ (r : Int32) (S' : St), post r S' → K p l e rX11_addParcel s m args below meth c 6 w (k + 1) (n + 40) (vx_MQ below Qc (XCs w px') args s rX11_addParcel.cells rX11_addParcel.slots (wA w)) S' 94 [(0, .ref v0)] [.int r]) : K p l e rX11_addParcel s m args below meth c 6 w k n (vx_MQ below Qc (XCs w px') args s rX11_addParcel.cells rX11_addParcel.slots (wA w)) S 91 [(0, .ref v0)] [.ref t1, .ref t0] := by
  refine callV_I (st := []) B [.ref t1] (hc) (cwV 1 B.1.2.2.2.2 (gV qlRX11_113 qiJx4a65c_add_9ea2d qeJx4a65c_add_9ea2d qzRJx4a65c qcJx4a65c_add_9ea2d) rfl rfl rfl (by decide +kernel) ⟨Nat.le_of_ble_eq_true rfl, Nat.le_of_ble_eq_true rfl⟩) rfl rfl (by decide) h3 (Nat.le_of_ble_eq_true rfl) rfl dX11_addParcel_91 ⟨h1, h2⟩ (fun r S' hp => ?_)
  exact kk r S' hp
theorem bX11_addParcel_94 (B : Bd p s m args meth c cX11_addParcel 6 (wsOf yX11_addParcel cX11_addParcel 6 (some .int)) RX11 w (some .int) "addParcel") (hl : l.stackTraces = false) (ht : ∀ x ∈ c.exceptionTable.toList, False) {v0 : Nat} {t0 : Int32} {x1 : Nat} {post : Int32 → St → Prop} {k n : Nat} {px' : String → St → Prop} {Qc : Array Value → State → Outcome → State → Prop} (h1 : kd S v0 = 13) (h2 : gP S 772 v0 = some x1) (hc : ConI l yJx4a65c_size_8abf5 (wsOf yJx4a65c_size_8abf5 cJx4a65c_size_8abf5 1 (some .int)) rJx4a65c_size_8abf5 w S [.ref x1] post) (h3 : k + 0 ≤ rX11_addParcel.cells) (h4 : n + 0 ≤ rX11_addParcel.slots) (h5 : kd S x1 = 1) (kk : ∀ (r : Int32) (S' : St), post r S' → K p l e rX11_addParcel s m args below meth c 6 w k n (vx_MQ below Qc (XCs w px') args s rX11_addParcel.cells rX11_addParcel.slots (wA w)) S' 102 [] [.int r]) : K p l e rX11_addParcel s m args below meth c 6 w k n (vx_MQ below Qc (XCs w px') args s rX11_addParcel.cells rX11_addParcel.slots (wA w)) S 94 [(0, .ref v0)] [.int t0] := by
  refine k_pop B rfl dX11_addParcel_94 ?_
  refine k_aload_n B 0 rfl rfl dX11_addParcel_95 ?_
  refine k_getP (f := 772) (r := gP S 772 v0) B 12 4 rfl (by decide) rfl (by decide) rfl rfl (fun w h => in_of (uw_12 w h)) (in_of qfRX11_29) dX11_addParcel_96 h1 rfl ?_
  rw [h2]; change K _ _ _ _ _ _ _ _ _ _ _ _ _ _ _ _ _ _ (.ref x1 :: _)
  refine callV_I (st := []) B [] (hc) (cwV 0 B.1.2.2.2.2 (gV qlRX11_101 qiJx4a65c_size_8abf5 qeJx4a65c_size_8abf5 qzRJx4a65c qcJx4a65c_size_8abf5) rfl rfl rfl (by decide +kernel) ⟨Nat.le_of_ble_eq_true rfl, Nat.le_of_ble_eq_true rfl⟩) rfl rfl (by decide) h5 (Nat.le_of_ble_eq_true rfl) rfl dX11_addParcel_99 ⟨h3, h4⟩ (fun r S' hp => ?_)
  refine k_sub [] rfl ?_
  exact kk r S' hp
theorem bX11_addParcel_102 (B : Bd p s m args meth c cX11_addParcel 6 (wsOf yX11_addParcel cX11_addParcel 6 (some .int)) RX11 w (some .int) "addParcel") (hl : l.stackTraces = false) (ht : ∀ x ∈ c.exceptionTable.toList, False) {t0 : Int32} {post : Int32 → St → Prop} {k n : Nat} {px' : String → St → Prop} (h1 : k ≤ rX11_addParcel.cells) (h2 : n ≤ rX11_addParcel.slots) (hq : post (t0 - 1) S) : K p l e rX11_addParcel s m args below meth c 6 w k n (vx_MQ below (va_Qi post (fun S' t => Hd w S' t.heap) (wA w)) (XCs w px') args s rX11_addParcel.cells rX11_addParcel.slots (wA w)) S 102 [] [.int t0] := by
  refine k_iconst (v := 1) B (by decide) dX11_addParcel_102 ?_
  refine k_isub B dX11_addParcel_103 ?_
  exact k_xret_I h1 h2 (ret_I B rfl dX11_addParcel_104 (hq))
theorem bX11_home_0 (B : Bd p s m args meth c cX11_home 3 (wsOf yX11_home cX11_home 3 (some .int)) RX11 w (some .int) "home") (hl : l.stackTraces = false) (ht : ∀ x ∈ c.exceptionTable.toList, False) {v0 : Nat} {v1 : Int32} {v2 : Int32} {x1 : Nat} {post : Int32 → St → Prop} {k n : Nat} {px' : String → St → Prop} {Qc : Array Value → State → Outcome → State → Prop} (h1 : kd S v0 = 13) (h2 : gP S 769 v0 = some x1) (hc : ConI l yJx4a65c_size_8abf5 (wsOf yJx4a65c_size_8abf5 cJx4a65c_size_8abf5 1 (some .int)) rJx4a65c_size_8abf5 w S [.ref x1] post) (h3 : k + 0 ≤ rX11_home.cells) (h4 : n + 0 ≤ rX11_home.slots) (h5 : kd S x1 = 1) (kk : ∀ (r : Int32) (S' : St), post r S' → K p l e rX11_home s m args below meth c 3 w k n (vx_MQ below Qc (XCs w px') args s rX11_home.cells rX11_home.slots (wA w)) S' 8 [(0, .ref v0), (1, .int v1), (2, .int v2)] [.int r, .int v1]) : K p l e rX11_home s m args below meth c 3 w k n (vx_MQ below Qc (XCs w px') args s rX11_home.cells rX11_home.slots (wA w)) S 0 [(0, .ref v0), (1, .int v1), (2, .int v2)] [] := by
  refine k_iload_n B 1 rfl rfl dX11_home_0 ?_
  refine k_aload_n B 0 rfl rfl dX11_home_1 ?_
  refine k_getP (f := 769) (r := gP S 769 v0) B 12 1 rfl (by decide) rfl (by decide) rfl rfl (fun w h => in_of (uw_12 w h)) (in_of qfRX11_19) dX11_home_2 h1 rfl ?_
  rw [h2]; change K _ _ _ _ _ _ _ _ _ _ _ _ _ _ _ _ _ _ (.ref x1 :: _)
  refine callV_I (st := [.int v1]) B [] (hc) (cwV 0 B.1.2.2.2.2 (gV qlRX11_101 qiJx4a65c_size_8abf5 qeJx4a65c_size_8abf5 qzRJx4a65c qcJx4a65c_size_8abf5) rfl rfl rfl (by decide +kernel) ⟨Nat.le_of_ble_eq_true rfl, Nat.le_of_ble_eq_true rfl⟩) rfl rfl (by decide) h5 (Nat.le_of_ble_eq_true rfl) rfl dX11_home_5 ⟨h3, h4⟩ (fun r S' hp => ?_)
  exact kk r S' hp
theorem bX11_home_8 (B : Bd p s m args meth c cX11_home 3 (wsOf yX11_home cX11_home 3 (some .int)) RX11 w (some .int) "home") (hl : l.stackTraces = false) (ht : ∀ x ∈ c.exceptionTable.toList, False) {v0 : Nat} {v1 : Int32} {v2 : Int32} {t0 : Int32} {t1 : Int32} {px : String → St → Prop} {post : St → Prop} {k n : Nat} {px' : String → St → Prop} {Qc : Array Value → State → Outcome → State → Prop} (hc : ConXV l yX11_needIndex (wsOf yX11_needIndex cX11_needIndex 2 none) rX11_needIndex w S [.int t0, .int t1] post px) (h1 : k + 1 ≤ rX11_home.cells) (h2 : n + 6 ≤ rX11_home.slots) (kx : ∀ (E : String) (S' : St), px E S' → px' E S') (kk : ∀ (S' : St), post S' → K p l e rX11_home s m args below meth c 3 w (k + 1) (n + 6) (vx_MQ below Qc (XCs w px') args s rX11_home.cells rX11_home.slots (wA w)) S' 11 [(0, .ref v0), (1, .int v1), (2, .int v2)] []) : K p l e rX11_home s m args below meth c 3 w k n (vx_MQ below Qc (XCs w px') args s rX11_home.cells rX11_home.slots (wA w)) S 8 [(0, .ref v0), (1, .int v1), (2, .int v2)] [.int t1, .int t0] := by
  refine tcallS_V (st := []) B ht [.int t0, .int t1] (hc) (va_cwS 2 B.1.2.2.2.2 (gS qlRX11_71 qsX11_needIndex qzRX11 qcX11_needIndex) rfl rfl rfl (by decide +kernel) ⟨Nat.le_of_ble_eq_true rfl, Nat.le_of_ble_eq_true rfl⟩) rfl (Nat.le_of_ble_eq_true rfl) rfl dX11_home_8 ⟨h1, h2⟩ ⟨h1, h2⟩ (kx) (fun S' hp => ?_)
  exact kk S' hp
theorem bX11_home_11 (B : Bd p s m args meth c cX11_home 3 (wsOf yX11_home cX11_home 3 (some .int)) RX11 w (some .int) "home") (hl : l.stackTraces = false) (ht : ∀ x ∈ c.exceptionTable.toList, False) {v0 : Nat} {v1 : Int32} {v2 : Int32} {px : String → St → Prop} {post : St → Prop} {k n : Nat} {px' : String → St → Prop} {Qc : Array Value → State → Outcome → State → Prop} (hc : ConXV l yX11_needIndex (wsOf yX11_needIndex cX11_needIndex 2 none) rX11_needIndex w S [.int v2, .int 6] post px) (h1 : k + 1 ≤ rX11_home.cells) (h2 : n + 6 ≤ rX11_home.slots) (kx : ∀ (E : String) (S' : St), px E S' → px' E S') (kk : ∀ (S' : St), post S' → K p l e rX11_home s m args below meth c 3 w (k + 1) (n + 6) (vx_MQ below Qc (XCs w px') args s rX11_home.cells rX11_home.slots (wA w)) S' 17 [(0, .ref v0), (1, .int v1), (2, .int v2)] []) : K p l e rX11_home s m args below meth c 3 w k n (vx_MQ below Qc (XCs w px') args s rX11_home.cells rX11_home.slots (wA w)) S 11 [(0, .ref v0), (1, .int v1), (2, .int v2)] [] := by
  refine k_iload_n B 2 rfl rfl dX11_home_11 ?_
  refine k_bipush (v := 6) B (by decide) dX11_home_12 ?_
  refine tcallS_V (st := []) B ht [.int v2, .int 6] (hc) (va_cwS 2 B.1.2.2.2.2 (gS qlRX11_71 qsX11_needIndex qzRX11 qcX11_needIndex) rfl rfl rfl (by decide +kernel) ⟨Nat.le_of_ble_eq_true rfl, Nat.le_of_ble_eq_true rfl⟩) rfl (Nat.le_of_ble_eq_true rfl) rfl dX11_home_14 ⟨h1, h2⟩ ⟨h1, h2⟩ (kx) (fun S' hp => ?_)
  exact kk S' hp
theorem bX11_home_17 (B : Bd p s m args meth c cX11_home 3 (wsOf yX11_home cX11_home 3 (some .int)) RX11 w (some .int) "home") (hl : l.stackTraces = false) (ht : ∀ x ∈ c.exceptionTable.toList, False) {v0 : Nat} {v1 : Int32} {v2 : Int32} {post : Int32 → St → Prop} {k n : Nat} {px' : String → St → Prop} {Qc : Array Value → State → Outcome → State → Prop} (hc : ConI l yX11_factOfHome (wsOf yX11_factOfHome cX11_factOfHome 4 (some .int)) rX11_factOfHome w S [.ref v0, .int v1, .int v2] post) (h1 : k + 0 ≤ rX11_home.cells) (h2 : n + 0 ≤ rX11_home.slots) (h3 : kd S v0 = 13) (kk : ∀ (r : Int32) (S' : St), post r S' → K p l e rX11_home s m args below meth c 3 w k n (vx_MQ below Qc (XCs w px') args s rX11_home.cells rX11_home.slots (wA w)) S' 23 [] [.int r]) : K p l e rX11_home s m args below meth c 3 w k n (vx_MQ below Qc (XCs w px') args s rX11_home.cells rX11_home.slots (wA w)) S 17 [(0, .ref v0), (1, .int v1), (2, .int v2)] [] := by
  refine k_aload_n B 0 rfl rfl dX11_home_17 ?_
  refine k_iload_n B 1 rfl rfl dX11_home_18 ?_
  refine k_iload_n B 2 rfl rfl dX11_home_19 ?_
  refine callV_I (st := []) B [.int v1, .int v2] (hc) (cwV 2 B.1.2.2.2.2 (gV qlRX11_149 qiX11_factOfHome qeX11_factOfHome qzRX11 qcX11_factOfHome) rfl rfl rfl (by decide +kernel) ⟨Nat.le_of_ble_eq_true rfl, Nat.le_of_ble_eq_true rfl⟩) rfl rfl (by decide) h3 (Nat.le_of_ble_eq_true rfl) rfl dX11_home_20 ⟨h1, h2⟩ (fun r S' hp => ?_)
  refine k_sub [] rfl ?_
  exact kk r S' hp
theorem bX11_home_23 (B : Bd p s m args meth c cX11_home 3 (wsOf yX11_home cX11_home 3 (some .int)) RX11 w (some .int) "home") (hl : l.stackTraces = false) (ht : ∀ x ∈ c.exceptionTable.toList, False) {t0 : Int32} {post : Int32 → St → Prop} {k n : Nat} {px' : String → St → Prop} (h1 : k ≤ rX11_home.cells) (h2 : n ≤ rX11_home.slots) (hq : post t0 S) : K p l e rX11_home s m args below meth c 3 w k n (vx_MQ below (va_Qi post (fun S' t => Hd w S' t.heap) (wA w)) (XCs w px') args s rX11_home.cells rX11_home.slots (wA w)) S 23 [] [.int t0] := by
  exact k_xret_I h1 h2 (ret_I B rfl dX11_home_23 (hq))
theorem bX11_locker_0 (B : Bd p s m args meth c cX11_locker 3 (wsOf yX11_locker cX11_locker 3 (some .int)) RX11 w (some .int) "locker") (hl : l.stackTraces = false) (ht : ∀ x ∈ c.exceptionTable.toList, False) {v0 : Nat} {v1 : Int32} {v2 : Int32} {x1 : Nat} {post : Int32 → St → Prop} {k n : Nat} {px' : String → St → Prop} {Qc : Array Value → State → Outcome → State → Prop} (h1 : kd S v0 = 13) (h2 : gP S 770 v0 = some x1) (hc : ConI l yJx4a65c_size_8abf5 (wsOf yJx4a65c_size_8abf5 cJx4a65c_size_8abf5 1 (some .int)) rJx4a65c_size_8abf5 w S [.ref x1] post) (h3 : k + 0 ≤ rX11_locker.cells) (h4 : n + 0 ≤ rX11_locker.slots) (h5 : kd S x1 = 1) (kk : ∀ (r : Int32) (S' : St), post r S' → K p l e rX11_locker s m args below meth c 3 w k n (vx_MQ below Qc (XCs w px') args s rX11_locker.cells rX11_locker.slots (wA w)) S' 8 [(0, .ref v0), (1, .int v1), (2, .int v2)] [.int r, .int v1]) : K p l e rX11_locker s m args below meth c 3 w k n (vx_MQ below Qc (XCs w px') args s rX11_locker.cells rX11_locker.slots (wA w)) S 0 [(0, .ref v0), (1, .int v1), (2, .int v2)] [] := by
  refine k_iload_n B 1 rfl rfl dX11_locker_0 ?_
  refine k_aload_n B 0 rfl rfl dX11_locker_1 ?_
  refine k_getP (f := 770) (r := gP S 770 v0) B 12 2 rfl (by decide) rfl (by decide) rfl rfl (fun w h => in_of (uw_12 w h)) (in_of qfRX11_23) dX11_locker_2 h1 rfl ?_
  rw [h2]; change K _ _ _ _ _ _ _ _ _ _ _ _ _ _ _ _ _ _ (.ref x1 :: _)
  refine callV_I (st := [.int v1]) B [] (hc) (cwV 0 B.1.2.2.2.2 (gV qlRX11_101 qiJx4a65c_size_8abf5 qeJx4a65c_size_8abf5 qzRJx4a65c qcJx4a65c_size_8abf5) rfl rfl rfl (by decide +kernel) ⟨Nat.le_of_ble_eq_true rfl, Nat.le_of_ble_eq_true rfl⟩) rfl rfl (by decide) h5 (Nat.le_of_ble_eq_true rfl) rfl dX11_locker_5 ⟨h3, h4⟩ (fun r S' hp => ?_)
  exact kk r S' hp
theorem bX11_locker_8 (B : Bd p s m args meth c cX11_locker 3 (wsOf yX11_locker cX11_locker 3 (some .int)) RX11 w (some .int) "locker") (hl : l.stackTraces = false) (ht : ∀ x ∈ c.exceptionTable.toList, False) {v0 : Nat} {v1 : Int32} {v2 : Int32} {t0 : Int32} {t1 : Int32} {px : String → St → Prop} {post : St → Prop} {k n : Nat} {px' : String → St → Prop} {Qc : Array Value → State → Outcome → State → Prop} (hc : ConXV l yX11_needIndex (wsOf yX11_needIndex cX11_needIndex 2 none) rX11_needIndex w S [.int t0, .int t1] post px) (h1 : k + 1 ≤ rX11_locker.cells) (h2 : n + 6 ≤ rX11_locker.slots) (kx : ∀ (E : String) (S' : St), px E S' → px' E S') (kk : ∀ (S' : St), post S' → K p l e rX11_locker s m args below meth c 3 w (k + 1) (n + 6) (vx_MQ below Qc (XCs w px') args s rX11_locker.cells rX11_locker.slots (wA w)) S' 11 [(0, .ref v0), (1, .int v1), (2, .int v2)] []) : K p l e rX11_locker s m args below meth c 3 w k n (vx_MQ below Qc (XCs w px') args s rX11_locker.cells rX11_locker.slots (wA w)) S 8 [(0, .ref v0), (1, .int v1), (2, .int v2)] [.int t1, .int t0] := by
  refine tcallS_V (st := []) B ht [.int t0, .int t1] (hc) (va_cwS 2 B.1.2.2.2.2 (gS qlRX11_71 qsX11_needIndex qzRX11 qcX11_needIndex) rfl rfl rfl (by decide +kernel) ⟨Nat.le_of_ble_eq_true rfl, Nat.le_of_ble_eq_true rfl⟩) rfl (Nat.le_of_ble_eq_true rfl) rfl dX11_locker_8 ⟨h1, h2⟩ ⟨h1, h2⟩ (kx) (fun S' hp => ?_)
  exact kk S' hp
theorem bX11_locker_11 (B : Bd p s m args meth c cX11_locker 3 (wsOf yX11_locker cX11_locker 3 (some .int)) RX11 w (some .int) "locker") (hl : l.stackTraces = false) (ht : ∀ x ∈ c.exceptionTable.toList, False) {v0 : Nat} {v1 : Int32} {v2 : Int32} {px : String → St → Prop} {post : St → Prop} {k n : Nat} {px' : String → St → Prop} {Qc : Array Value → State → Outcome → State → Prop} (hc : ConXV l yX11_needIndex (wsOf yX11_needIndex cX11_needIndex 2 none) rX11_needIndex w S [.int v2, .int 6] post px) (h1 : k + 1 ≤ rX11_locker.cells) (h2 : n + 6 ≤ rX11_locker.slots) (kx : ∀ (E : String) (S' : St), px E S' → px' E S') (kk : ∀ (S' : St), post S' → K p l e rX11_locker s m args below meth c 3 w (k + 1) (n + 6) (vx_MQ below Qc (XCs w px') args s rX11_locker.cells rX11_locker.slots (wA w)) S' 17 [(0, .ref v0), (1, .int v1), (2, .int v2)] []) : K p l e rX11_locker s m args below meth c 3 w k n (vx_MQ below Qc (XCs w px') args s rX11_locker.cells rX11_locker.slots (wA w)) S 11 [(0, .ref v0), (1, .int v1), (2, .int v2)] [] := by
  refine k_iload_n B 2 rfl rfl dX11_locker_11 ?_
  refine k_bipush (v := 6) B (by decide) dX11_locker_12 ?_
  refine tcallS_V (st := []) B ht [.int v2, .int 6] (hc) (va_cwS 2 B.1.2.2.2.2 (gS qlRX11_71 qsX11_needIndex qzRX11 qcX11_needIndex) rfl rfl rfl (by decide +kernel) ⟨Nat.le_of_ble_eq_true rfl, Nat.le_of_ble_eq_true rfl⟩) rfl (Nat.le_of_ble_eq_true rfl) rfl dX11_locker_14 ⟨h1, h2⟩ ⟨h1, h2⟩ (kx) (fun S' hp => ?_)
  exact kk S' hp
theorem bX11_locker_17 (B : Bd p s m args meth c cX11_locker 3 (wsOf yX11_locker cX11_locker 3 (some .int)) RX11 w (some .int) "locker") (hl : l.stackTraces = false) (ht : ∀ x ∈ c.exceptionTable.toList, False) {v0 : Nat} {v1 : Int32} {v2 : Int32} {post : Int32 → St → Prop} {k n : Nat} {px' : String → St → Prop} {Qc : Array Value → State → Outcome → State → Prop} (hc : ConI l yX11_factOfLocker (wsOf yX11_factOfLocker cX11_factOfLocker 4 (some .int)) rX11_factOfLocker w S [.ref v0, .int v1, .int v2] post) (h1 : k + 0 ≤ rX11_locker.cells) (h2 : n + 0 ≤ rX11_locker.slots) (h3 : kd S v0 = 13) (kk : ∀ (r : Int32) (S' : St), post r S' → K p l e rX11_locker s m args below meth c 3 w k n (vx_MQ below Qc (XCs w px') args s rX11_locker.cells rX11_locker.slots (wA w)) S' 23 [] [.int r]) : K p l e rX11_locker s m args below meth c 3 w k n (vx_MQ below Qc (XCs w px') args s rX11_locker.cells rX11_locker.slots (wA w)) S 17 [(0, .ref v0), (1, .int v1), (2, .int v2)] [] := by
  refine k_aload_n B 0 rfl rfl dX11_locker_17 ?_
  refine k_iload_n B 1 rfl rfl dX11_locker_18 ?_
  refine k_iload_n B 2 rfl rfl dX11_locker_19 ?_
  refine callV_I (st := []) B [.int v1, .int v2] (hc) (cwV 2 B.1.2.2.2.2 (gV qlRX11_153 qiX11_factOfLocker qeX11_factOfLocker qzRX11 qcX11_factOfLocker) rfl rfl rfl (by decide +kernel) ⟨Nat.le_of_ble_eq_true rfl, Nat.le_of_ble_eq_true rfl⟩) rfl rfl (by decide) h3 (Nat.le_of_ble_eq_true rfl) rfl dX11_locker_20 ⟨h1, h2⟩ (fun r S' hp => ?_)
  refine k_sub [] rfl ?_
  exact kk r S' hp
theorem bX11_locker_23 (B : Bd p s m args meth c cX11_locker 3 (wsOf yX11_locker cX11_locker 3 (some .int)) RX11 w (some .int) "locker") (hl : l.stackTraces = false) (ht : ∀ x ∈ c.exceptionTable.toList, False) {t0 : Int32} {post : Int32 → St → Prop} {k n : Nat} {px' : String → St → Prop} (h1 : k ≤ rX11_locker.cells) (h2 : n ≤ rX11_locker.slots) (hq : post t0 S) : K p l e rX11_locker s m args below meth c 3 w k n (vx_MQ below (va_Qi post (fun S' t => Hd w S' t.heap) (wA w)) (XCs w px') args s rX11_locker.cells rX11_locker.slots (wA w)) S 23 [] [.int t0] := by
  exact k_xret_I h1 h2 (ret_I B rfl dX11_locker_23 (hq))
theorem bX11_parcel_0 (B : Bd p s m args meth c cX11_parcel 3 (wsOf yX11_parcel cX11_parcel 3 (some .int)) RX11 w (some .int) "parcel") (hl : l.stackTraces = false) (ht : ∀ x ∈ c.exceptionTable.toList, False) {v0 : Nat} {v1 : Int32} {v2 : Int32} {x1 : Nat} {post : Int32 → St → Prop} {k n : Nat} {px' : String → St → Prop} {Qc : Array Value → State → Outcome → State → Prop} (h1 : kd S v0 = 13) (h2 : gP S 772 v0 = some x1) (hc : ConI l yJx4a65c_size_8abf5 (wsOf yJx4a65c_size_8abf5 cJx4a65c_size_8abf5 1 (some .int)) rJx4a65c_size_8abf5 w S [.ref x1] post) (h3 : k + 0 ≤ rX11_parcel.cells) (h4 : n + 0 ≤ rX11_parcel.slots) (h5 : kd S x1 = 1) (kk : ∀ (r : Int32) (S' : St), post r S' → K p l e rX11_parcel s m args below meth c 3 w k n (vx_MQ below Qc (XCs w px') args s rX11_parcel.cells rX11_parcel.slots (wA w)) S' 8 [(0, .ref v0), (1, .int v1), (2, .int v2)] [.int r, .int v1]) : K p l e rX11_parcel s m args below meth c 3 w k n (vx_MQ below Qc (XCs w px') args s rX11_parcel.cells rX11_parcel.slots (wA w)) S 0 [(0, .ref v0), (1, .int v1), (2, .int v2)] [] := by
  refine k_iload_n B 1 rfl rfl dX11_parcel_0 ?_
  refine k_aload_n B 0 rfl rfl dX11_parcel_1 ?_
  refine k_getP (f := 772) (r := gP S 772 v0) B 12 4 rfl (by decide) rfl (by decide) rfl rfl (fun w h => in_of (uw_12 w h)) (in_of qfRX11_29) dX11_parcel_2 h1 rfl ?_
  rw [h2]; change K _ _ _ _ _ _ _ _ _ _ _ _ _ _ _ _ _ _ (.ref x1 :: _)
  refine callV_I (st := [.int v1]) B [] (hc) (cwV 0 B.1.2.2.2.2 (gV qlRX11_101 qiJx4a65c_size_8abf5 qeJx4a65c_size_8abf5 qzRJx4a65c qcJx4a65c_size_8abf5) rfl rfl rfl (by decide +kernel) ⟨Nat.le_of_ble_eq_true rfl, Nat.le_of_ble_eq_true rfl⟩) rfl rfl (by decide) h5 (Nat.le_of_ble_eq_true rfl) rfl dX11_parcel_5 ⟨h3, h4⟩ (fun r S' hp => ?_)
  exact kk r S' hp
theorem bX11_parcel_8 (B : Bd p s m args meth c cX11_parcel 3 (wsOf yX11_parcel cX11_parcel 3 (some .int)) RX11 w (some .int) "parcel") (hl : l.stackTraces = false) (ht : ∀ x ∈ c.exceptionTable.toList, False) {v0 : Nat} {v1 : Int32} {v2 : Int32} {t0 : Int32} {t1 : Int32} {px : String → St → Prop} {post : St → Prop} {k n : Nat} {px' : String → St → Prop} {Qc : Array Value → State → Outcome → State → Prop} (hc : ConXV l yX11_needIndex (wsOf yX11_needIndex cX11_needIndex 2 none) rX11_needIndex w S [.int t0, .int t1] post px) (h1 : k + 1 ≤ rX11_parcel.cells) (h2 : n + 6 ≤ rX11_parcel.slots) (kx : ∀ (E : String) (S' : St), px E S' → px' E S') (kk : ∀ (S' : St), post S' → K p l e rX11_parcel s m args below meth c 3 w (k + 1) (n + 6) (vx_MQ below Qc (XCs w px') args s rX11_parcel.cells rX11_parcel.slots (wA w)) S' 11 [(0, .ref v0), (1, .int v1), (2, .int v2)] []) : K p l e rX11_parcel s m args below meth c 3 w k n (vx_MQ below Qc (XCs w px') args s rX11_parcel.cells rX11_parcel.slots (wA w)) S 8 [(0, .ref v0), (1, .int v1), (2, .int v2)] [.int t1, .int t0] := by
  refine tcallS_V (st := []) B ht [.int t0, .int t1] (hc) (va_cwS 2 B.1.2.2.2.2 (gS qlRX11_71 qsX11_needIndex qzRX11 qcX11_needIndex) rfl rfl rfl (by decide +kernel) ⟨Nat.le_of_ble_eq_true rfl, Nat.le_of_ble_eq_true rfl⟩) rfl (Nat.le_of_ble_eq_true rfl) rfl dX11_parcel_8 ⟨h1, h2⟩ ⟨h1, h2⟩ (kx) (fun S' hp => ?_)
  exact kk S' hp
theorem bX11_parcel_11 (B : Bd p s m args meth c cX11_parcel 3 (wsOf yX11_parcel cX11_parcel 3 (some .int)) RX11 w (some .int) "parcel") (hl : l.stackTraces = false) (ht : ∀ x ∈ c.exceptionTable.toList, False) {v0 : Nat} {v1 : Int32} {v2 : Int32} {px : String → St → Prop} {post : St → Prop} {k n : Nat} {px' : String → St → Prop} {Qc : Array Value → State → Outcome → State → Prop} (hc : ConXV l yX11_needIndex (wsOf yX11_needIndex cX11_needIndex 2 none) rX11_needIndex w S [.int v2, .int 9] post px) (h1 : k + 1 ≤ rX11_parcel.cells) (h2 : n + 6 ≤ rX11_parcel.slots) (kx : ∀ (E : String) (S' : St), px E S' → px' E S') (kk : ∀ (S' : St), post S' → K p l e rX11_parcel s m args below meth c 3 w (k + 1) (n + 6) (vx_MQ below Qc (XCs w px') args s rX11_parcel.cells rX11_parcel.slots (wA w)) S' 17 [(0, .ref v0), (1, .int v1), (2, .int v2)] []) : K p l e rX11_parcel s m args below meth c 3 w k n (vx_MQ below Qc (XCs w px') args s rX11_parcel.cells rX11_parcel.slots (wA w)) S 11 [(0, .ref v0), (1, .int v1), (2, .int v2)] [] := by
  refine k_iload_n B 2 rfl rfl dX11_parcel_11 ?_
  refine k_bipush (v := 9) B (by decide) dX11_parcel_12 ?_
  refine tcallS_V (st := []) B ht [.int v2, .int 9] (hc) (va_cwS 2 B.1.2.2.2.2 (gS qlRX11_71 qsX11_needIndex qzRX11 qcX11_needIndex) rfl rfl rfl (by decide +kernel) ⟨Nat.le_of_ble_eq_true rfl, Nat.le_of_ble_eq_true rfl⟩) rfl (Nat.le_of_ble_eq_true rfl) rfl dX11_parcel_14 ⟨h1, h2⟩ ⟨h1, h2⟩ (kx) (fun S' hp => ?_)
  exact kk S' hp
theorem bX11_parcel_17 (B : Bd p s m args meth c cX11_parcel 3 (wsOf yX11_parcel cX11_parcel 3 (some .int)) RX11 w (some .int) "parcel") (hl : l.stackTraces = false) (ht : ∀ x ∈ c.exceptionTable.toList, False) {v0 : Nat} {v1 : Int32} {v2 : Int32} {x1 : Nat} {post : Nat → St → Prop} {k n : Nat} {px' : String → St → Prop} {Qc : Array Value → State → Outcome → State → Prop} (h1 : kd S v0 = 13) (h2 : gP S 772 v0 = some x1) (hc : ConR l yJx4a65c_get_915e3 (wsOf yJx4a65c_get_915e3 cJx4a65c_get_915e3 2 (some (.object "java/lang/Object"))) rJx4a65c_get_915e3 w S [.ref x1, .int v1] post) (h3 : k + 0 ≤ rX11_parcel.cells) (h4 : n + 0 ≤ rX11_parcel.slots) (h5 : kd S x1 = 1) (kk : ∀ (r : Nat) (S' : St), post r S' → K p l e rX11_parcel s m args below meth c 3 w k n (vx_MQ below Qc (XCs w px') args s rX11_parcel.cells rX11_parcel.slots (wA w)) S' 26 [(2, .int v2)] [.ref r, .ref v0]) : K p l e rX11_parcel s m args below meth c 3 w k n (vx_MQ below Qc (XCs w px') args s rX11_parcel.cells rX11_parcel.slots (wA w)) S 17 [(0, .ref v0), (1, .int v1), (2, .int v2)] [] := by
  refine k_aload_n B 0 rfl rfl dX11_parcel_17 ?_
  refine k_aload_n B 0 rfl rfl dX11_parcel_18 ?_
  refine k_getP (f := 772) (r := gP S 772 v0) B 12 4 rfl (by decide) rfl (by decide) rfl rfl (fun w h => in_of (uw_12 w h)) (in_of qfRX11_29) dX11_parcel_19 h1 rfl ?_
  rw [h2]; change K _ _ _ _ _ _ _ _ _ _ _ _ _ _ _ _ _ _ (.ref x1 :: _)
  refine k_iload_n B 1 rfl rfl dX11_parcel_22 ?_
  refine callV_R (st := [.ref v0]) B [.int v1] (hc) (cwV 1 B.1.2.2.2.2 (gV qlRX11_124 qiJx4a65c_get_915e3 qeJx4a65c_get_915e3 qzRJx4a65c qcJx4a65c_get_915e3) rfl rfl rfl (by decide +kernel) ⟨Nat.le_of_ble_eq_true rfl, Nat.le_of_ble_eq_true rfl⟩) rfl rfl (by decide) h5 (Nat.le_of_ble_eq_true rfl) rfl dX11_parcel_23 ⟨h3, h4⟩ (fun r S' hp => ?_)
  refine k_sub [2] rfl ?_
  exact kk r S' hp
theorem bX11_parcel_26 (B : Bd p s m args meth c cX11_parcel 3 (wsOf yX11_parcel cX11_parcel 3 (some .int)) RX11 w (some .int) "parcel") (hl : l.stackTraces = false) (ht : ∀ x ∈ c.exceptionTable.toList, False) {v2 : Int32} {t0 : Nat} {t1 : Nat} {post : Int32 → St → Prop} {k n : Nat} {px' : String → St → Prop} {Qc : Array Value → State → Outcome → State → Prop} (h1 : kd S t1 = 5) (hc : ConI l yX11_factOfParcel (wsOf yX11_factOfParcel cX11_factOfParcel 3 (some .int)) rX11_factOfParcel w S [.ref t0, .ref t1, .int v2] post) (h2 : k + 0 ≤ rX11_parcel.cells) (h3 : n + 0 ≤ rX11_parcel.slots) (h4 : kd S t0 = 13) (kk : ∀ (r : Int32) (S' : St), post r S' → K p l e rX11_parcel s m args below meth c 3 w k n (vx_MQ below Qc (XCs w px') args s rX11_parcel.cells rX11_parcel.slots (wA w)) S' 33 [] [.int r]) : K p l e rX11_parcel s m args below meth c 3 w k n (vx_MQ below Qc (XCs w px') args s rX11_parcel.cells rX11_parcel.slots (wA w)) S 26 [(2, .int v2)] [.ref t1, .ref t0] := by
  refine k_cast B 4 rfl (by decide) (in_of qkRX11_144) dX11_parcel_26 h1 ?_
  refine k_iload_n B 0 rfl rfl dX11_parcel_29 ?_
  refine callV_I (st := []) B [.ref t1, .int v2] (hc) (cwV 2 B.1.2.2.2.2 (gV qlRX11_156 qiX11_factOfParcel qeX11_factOfParcel qzRX11 qcX11_factOfParcel) rfl rfl rfl (by decide +kernel) ⟨Nat.le_of_ble_eq_true rfl, Nat.le_of_ble_eq_true rfl⟩) rfl rfl (by decide) h4 (Nat.le_of_ble_eq_true rfl) rfl dX11_parcel_30 ⟨h2, h3⟩ (fun r S' hp => ?_)
  refine k_sub [] rfl ?_
  exact kk r S' hp
theorem bX11_parcel_33 (B : Bd p s m args meth c cX11_parcel 3 (wsOf yX11_parcel cX11_parcel 3 (some .int)) RX11 w (some .int) "parcel") (hl : l.stackTraces = false) (ht : ∀ x ∈ c.exceptionTable.toList, False) {t0 : Int32} {post : Int32 → St → Prop} {k n : Nat} {px' : String → St → Prop} (h1 : k ≤ rX11_parcel.cells) (h2 : n ≤ rX11_parcel.slots) (hq : post t0 S) : K p l e rX11_parcel s m args below meth c 3 w k n (vx_MQ below (va_Qi post (fun S' t => Hd w S' t.heap) (wA w)) (XCs w px') args s rX11_parcel.cells rX11_parcel.slots (wA w)) S 33 [] [.int t0] := by
  exact k_xret_I h1 h2 (ret_I B rfl dX11_parcel_33 (hq))
theorem bX11_put_0 (B : Bd p s m args meth c cX11_put 7 (wsOf yX11_put cX11_put 7 (some .int)) RX11 w (some .int) "put") (hl : l.stackTraces = false) (ht : ∀ x ∈ c.exceptionTable.toList, False) {v0 : Nat} {v1 : Int32} {v2 : Int32} {v3 : Int32} {px : String → St → Prop} {post : St → Prop} {k n : Nat} {px' : String → St → Prop} {Qc : Array Value → State → Outcome → State → Prop} (hc : ConXV l yX11_needSpot (wsOf yX11_needSpot cX11_needSpot 4 none) rX11_needSpot w S [.ref v0, .int v1, .int v2, .int v3] post px) (h1 : k + 3 ≤ rX11_put.cells) (h2 : n + 18 ≤ rX11_put.slots) (h3 : kd S v0 = 13) (kx : ∀ (E : String) (S' : St), px E S' → px' E S') (kk : ∀ (S' : St), post S' → K p l e rX11_put s m args below meth c 7 w (k + 3) (n + 18) (vx_MQ below Qc (XCs w px') args s rX11_put.cells rX11_put.slots (wA w)) S' 7 [(0, .ref v0), (1, .int v1), (2, .int v2), (3, .int v3)] []) : K p l e rX11_put s m args below meth c 7 w k n (vx_MQ below Qc (XCs w px') args s rX11_put.cells rX11_put.slots (wA w)) S 0 [(0, .ref v0), (1, .int v1), (2, .int v2), (3, .int v3)] [] := by
  refine k_aload_n B 0 rfl rfl dX11_put_0 ?_
  refine k_iload_n B 1 rfl rfl dX11_put_1 ?_
  refine k_iload_n B 2 rfl rfl dX11_put_2 ?_
  refine k_iload_n B 3 rfl rfl dX11_put_3 ?_
  refine tcallV_V (st := []) B ht [.int v1, .int v2, .int v3] (hc) (cwV 3 B.1.2.2.2.2 (gV qlRX11_160 qiX11_needSpot qeX11_needSpot qzRX11 qcX11_needSpot) rfl rfl rfl (by decide +kernel) ⟨Nat.le_of_ble_eq_true rfl, Nat.le_of_ble_eq_true rfl⟩) rfl rfl (by decide) h3 (Nat.le_of_ble_eq_true rfl) rfl dX11_put_4 ⟨h1, h2⟩ ⟨h1, h2⟩ (kx) (fun S' hp => ?_)
  exact kk S' hp
theorem bX11_put_7 (B : Bd p s m args meth c cX11_put 7 (wsOf yX11_put cX11_put 7 (some .int)) RX11 w (some .int) "put") (hl : l.stackTraces = false) (ht : ∀ x ∈ c.exceptionTable.toList, False) {v0 : Nat} {v1 : Int32} {v2 : Int32} {v3 : Int32} {x1 : Nat} {post : Nat → St → Prop} {k n : Nat} {px' : String → St → Prop} {Qc : Array Value → State → Outcome → State → Prop} (h1 : kd S v0 = 13) (h2 : gP S 772 v0 = some x1) (hc : ConR l yJx4a65c_get_915e3 (wsOf yJx4a65c_get_915e3 cJx4a65c_get_915e3 2 (some (.object "java/lang/Object"))) rJx4a65c_get_915e3 w S [.ref x1, .int v1] post) (h3 : k + 0 ≤ rX11_put.cells) (h4 : n + 0 ≤ rX11_put.slots) (h5 : kd S x1 = 1) (kk : ∀ (r : Nat) (S' : St), post r S' → K p l e rX11_put s m args below meth c 7 w k n (vx_MQ below Qc (XCs w px') args s rX11_put.cells rX11_put.slots (wA w)) S' 15 [(0, .ref v0), (2, .int v2), (3, .int v3)] [.ref r]) : K p l e rX11_put s m args below meth c 7 w k n (vx_MQ below Qc (XCs w px') args s rX11_put.cells rX11_put.slots (wA w)) S 7 [(0, .ref v0), (1, .int v1), (2, .int v2), (3, .int v3)] [] := by
  refine k_aload_n B 0 rfl rfl dX11_put_7 ?_
  refine k_getP (f := 772) (r := gP S 772 v0) B 12 4 rfl (by decide) rfl (by decide) rfl rfl (fun w h => in_of (uw_12 w h)) (in_of qfRX11_29) dX11_put_8 h1 rfl ?_
  rw [h2]; change K _ _ _ _ _ _ _ _ _ _ _ _ _ _ _ _ _ _ (.ref x1 :: _)
  refine k_iload_n B 1 rfl rfl dX11_put_11 ?_
  refine callV_R (st := []) B [.int v1] (hc) (cwV 1 B.1.2.2.2.2 (gV qlRX11_124 qiJx4a65c_get_915e3 qeJx4a65c_get_915e3 qzRJx4a65c qcJx4a65c_get_915e3) rfl rfl rfl (by decide +kernel) ⟨Nat.le_of_ble_eq_true rfl, Nat.le_of_ble_eq_true rfl⟩) rfl rfl (by decide) h5 (Nat.le_of_ble_eq_true rfl) rfl dX11_put_12 ⟨h3, h4⟩ (fun r S' hp => ?_)
  refine k_sub [0, 2, 3] rfl ?_
  exact kk r S' hp
theorem bX11_put_15 (B : Bd p s m args meth c cX11_put 7 (wsOf yX11_put cX11_put 7 (some .int)) RX11 w (some .int) "put") (hl : l.stackTraces = false) (ht : ∀ x ∈ c.exceptionTable.toList, False) {v0 : Nat} {v2 : Int32} {v3 : Int32} {t0 : Nat} {x1 : Nat} {post : Nat → St → Prop} {k n : Nat} {px' : String → St → Prop} {Qc : Array Value → State → Outcome → State → Prop} (h1 : kd S t0 = 5) (h2 : kd S v0 = 13) (h3 : gP S 771 v0 = some x1) (hc : ConR l yJx4a65c_get_915e3 (wsOf yJx4a65c_get_915e3 cJx4a65c_get_915e3 2 (some (.object "java/lang/Object"))) rJx4a65c_get_915e3 w S [.ref x1, .int v2] post) (h4 : k + 0 ≤ rX11_put.cells) (h5 : n + 0 ≤ rX11_put.slots) (h6 : kd S x1 = 1) (kk : ∀ (r : Nat) (S' : St), post r S' → K p l e rX11_put s m args below meth c 7 w k n (vx_MQ below Qc (XCs w px') args s rX11_put.cells rX11_put.slots (wA w)) S' 28 [(0, .ref v0), (3, .int v3), (4, .ref t0)] [.ref r]) : K p l e rX11_put s m args below meth c 7 w k n (vx_MQ below Qc (XCs w px') args s rX11_put.cells rX11_put.slots (wA w)) S 15 [(0, .ref v0), (2, .int v2), (3, .int v3)] [.ref t0] := by
  refine k_cast B 4 rfl (by decide) (in_of qkRX11_144) dX11_put_15 h1 ?_
  refine k_astore (lst' := [(4, .ref t0), (0, .ref v0), (2, .int v2), (3, .int v3)]) B (by decide) rfl dX11_put_18 ?_
  refine k_aload_n B 1 rfl rfl dX11_put_20 ?_
  refine k_getP (f := 771) (r := gP S 771 v0) B 12 3 rfl (by decide) rfl (by decide) rfl rfl (fun w h => in_of (uw_12 w h)) (in_of qfRX11_26) dX11_put_21 h2 rfl ?_
  rw [h3]; change K _ _ _ _ _ _ _ _ _ _ _ _ _ _ _ _ _ _ (.ref x1 :: _)
  refine k_iload_n B 2 rfl rfl dX11_put_24 ?_
  refine callV_R (st := []) B [.int v2] (hc) (cwV 1 B.1.2.2.2.2 (gV qlRX11_124 qiJx4a65c_get_915e3 qeJx4a65c_get_915e3 qzRJx4a65c qcJx4a65c_get_915e3) rfl rfl rfl (by decide +kernel) ⟨Nat.le_of_ble_eq_true rfl, Nat.le_of_ble_eq_true rfl⟩) rfl rfl (by decide) h6 (Nat.le_of_ble_eq_true rfl) rfl dX11_put_25 ⟨h4, h5⟩ (fun r S' hp => ?_)
  refine k_sub [1, 3, 0] rfl ?_
  exact kk r S' hp
theorem bX11_put_28 (B : Bd p s m args meth c cX11_put 7 (wsOf yX11_put cX11_put 7 (some .int)) RX11 w (some .int) "put") (hl : l.stackTraces = false) (ht : ∀ x ∈ c.exceptionTable.toList, False) {v0 : Nat} {v3 : Int32} {v4 : Nat} {t0 : Nat} {post : Int32 → St → Prop} {k n : Nat} {px' : String → St → Prop} {Qc : Array Value → State → Outcome → State → Prop} (h1 : kd S t0 = 12) (hc : ConI l yX11_isLoose (wsOf yX11_isLoose cX11_isLoose 1 (some .boolean)) rX11_isLoose w S [.ref v4] post) (h2 : k + 0 ≤ rX11_put.cells) (h3 : n + 0 ≤ rX11_put.slots) (kk : ∀ (r : Int32) (S' : St), post r S' → K p l e rX11_put s m args below meth c 7 w k n (vx_MQ below Qc (XCs w px') args s rX11_put.cells rX11_put.slots (wA w)) S' 38 [(0, .ref v0), (3, .int v3), (4, .ref v4), (5, .ref t0)] [.int r]) : K p l e rX11_put s m args below meth c 7 w k n (vx_MQ below Qc (XCs w px') args s rX11_put.cells rX11_put.slots (wA w)) S 28 [(0, .ref v0), (3, .int v3), (4, .ref v4)] [.ref t0] := by
  refine k_cast B 11 rfl (by decide) (in_of qkRX11_139) dX11_put_28 h1 ?_
  refine k_astore (lst' := [(5, .ref t0), (0, .ref v0), (3, .int v3), (4, .ref v4)]) B (by decide) rfl dX11_put_31 ?_
  refine k_aload B 3 rfl dX11_put_33 ?_
  refine callS_I (st := []) B [.ref v4] (hc) (va_cwS 1 B.1.2.2.2.2 (gS qlRX11_163 qsX11_isLoose qzRX11 qcX11_isLoose) rfl rfl rfl (by decide +kernel) ⟨Nat.le_of_ble_eq_true rfl, Nat.le_of_ble_eq_true rfl⟩) rfl (Nat.le_of_ble_eq_true rfl) rfl dX11_put_35 ⟨h2, h3⟩ (fun r S' hp => ?_)
  refine k_sub [1, 2, 3, 0] rfl ?_
  exact kk r S' hp
theorem bX11_put_38 (B : Bd p s m args meth c cX11_put 7 (wsOf yX11_put cX11_put 7 (some .int)) RX11 w (some .int) "put") (hl : l.stackTraces = false) (ht : ∀ x ∈ c.exceptionTable.toList, False) {v0 : Nat} {v3 : Int32} {v4 : Nat} {v5 : Nat} {t0 : Int32} {k n : Nat} {px' : String → St → Prop} {Qc : Array Value → State → Outcome → State → Prop}  (kt : t0 = 0 → K p l e rX11_put s m args below meth c 7 w k n (vx_MQ below Qc (XCs w px') args s rX11_put.cells rX11_put.slots (wA w)) S 53 [(3, .int v3), (4, .ref v4), (5, .ref v5)] []) (kf : ¬ t0 = 0 → K p l e rX11_put s m args below meth c 7 w k n (vx_MQ below Qc (XCs w px') args s rX11_put.cells rX11_put.slots (wA w)) S 41 [(0, .ref v0), (3, .int v3), (4, .ref v4), (5, .ref v5)] []) : K p l e rX11_put s m args below meth c 7 w k n (vx_MQ below Qc (XCs w px') args s rX11_put.cells rX11_put.slots (wA w)) S 38 [(0, .ref v0), (3, .int v3), (4, .ref v4), (5, .ref v5)] [.int t0] := by
  refine k_if_eq (tgt := 53) B dX11_put_38 (by decide) (fun c => ?_) (fun c => ?_)
  · refine k_sub [1, 2, 3] rfl ?_
    exact kt c
  · exact kf c
theorem bX11_put_41 (B : Bd p s m args meth c cX11_put 7 (wsOf yX11_put cX11_put 7 (some .int)) RX11 w (some .int) "put") (hl : l.stackTraces = false) (ht : ∀ x ∈ c.exceptionTable.toList, False) {v0 : Nat} {v3 : Int32} {v4 : Nat} {v5 : Nat} {post : Int32 → St → Prop} {k n : Nat} {px' : String → St → Prop} {Qc : Array Value → State → Outcome → State → Prop} (hc : ConI l yX11_addedCost (wsOf yX11_addedCost cX11_addedCost 4 (some .int)) rX11_addedCost w S [.ref v0, .ref v4, .ref v5, .int v3] post) (h1 : k + 0 ≤ rX11_put.cells) (h2 : n + 0 ≤ rX11_put.slots) (h3 : kd S v0 = 13) (kk : ∀ (r : Int32) (S' : St), post r S' → K p l e rX11_put s m args below meth c 7 w k n (vx_MQ below Qc (XCs w px') args s rX11_put.cells rX11_put.slots (wA w)) S' 50 [(3, .int v3), (4, .ref v4), (5, .ref v5)] [.int r]) : K p l e rX11_put s m args below meth c 7 w k n (vx_MQ below Qc (XCs w px') args s rX11_put.cells rX11_put.slots (wA w)) S 41 [(0, .ref v0), (3, .int v3), (4, .ref v4), (5, .ref v5)] [] := by
  refine k_aload_n B 0 rfl rfl dX11_put_41 ?_
  refine k_aload B 2 rfl dX11_put_42 ?_
  refine k_aload B 3 rfl dX11_put_44 ?_
  refine k_iload_n B 1 rfl rfl dX11_put_46 ?_
  refine callV_I (st := []) B [.ref v4, .ref v5, .int v3] (hc) (cwV 3 B.1.2.2.2.2 (gV qlRX11_167 qiX11_addedCost qeX11_addedCost qzRX11 qcX11_addedCost) rfl rfl rfl (by decide +kernel) ⟨Nat.le_of_ble_eq_true rfl, Nat.le_of_ble_eq_true rfl⟩) rfl rfl (by decide) h3 (Nat.le_of_ble_eq_true rfl) rfl dX11_put_47 ⟨h1, h2⟩ (fun r S' hp => ?_)
  refine k_sub [1, 2, 3] rfl ?_
  exact kk r S' hp
theorem bX11_put_50 (B : Bd p s m args meth c cX11_put 7 (wsOf yX11_put cX11_put 7 (some .int)) RX11 w (some .int) "put") (hl : l.stackTraces = false) (ht : ∀ x ∈ c.exceptionTable.toList, False) {v3 : Int32} {v4 : Nat} {v5 : Nat} {t0 : Int32} {k n : Nat} {px' : String → St → Prop} {Qc : Array Value → State → Outcome → State → Prop}  (kk : K p l e rX11_put s m args below meth c 7 w k n (vx_MQ below Qc (XCs w px') args s rX11_put.cells rX11_put.slots (wA w)) S 55 [(3, .int v3), (4, .ref v4), (5, .ref v5)] [.int t0]) : K p l e rX11_put s m args below meth c 7 w k n (vx_MQ below Qc (XCs w px') args s rX11_put.cells rX11_put.slots (wA w)) S 50 [(3, .int v3), (4, .ref v4), (5, .ref v5)] [.int t0] := by
  refine k_goto (tgt := 55) B dX11_put_50 (by decide) ?_
  exact kk
theorem bX11_put_53 (B : Bd p s m args meth c cX11_put 7 (wsOf yX11_put cX11_put 7 (some .int)) RX11 w (some .int) "put") (hl : l.stackTraces = false) (ht : ∀ x ∈ c.exceptionTable.toList, False) {v3 : Int32} {v4 : Nat} {v5 : Nat} {k n : Nat} {px' : String → St → Prop} {Qc : Array Value → State → Outcome → State → Prop}  (kk : K p l e rX11_put s m args below meth c 7 w k n (vx_MQ below Qc (XCs w px') args s rX11_put.cells rX11_put.slots (wA w)) S 55 [(3, .int v3), (4, .ref v4), (5, .ref v5)] [.int 1000000]) : K p l e rX11_put s m args below meth c 7 w k n (vx_MQ below Qc (XCs w px') args s rX11_put.cells rX11_put.slots (wA w)) S 53 [(3, .int v3), (4, .ref v4), (5, .ref v5)] [] := by
  refine k_ldc (v := 1000000) B (in_of qtRX11_171) dX11_put_53 ?_
  exact kk
theorem bX11_put_55 (B : Bd p s m args meth c cX11_put 7 (wsOf yX11_put cX11_put 7 (some .int)) RX11 w (some .int) "put") (hl : l.stackTraces = false) (ht : ∀ x ∈ c.exceptionTable.toList, False) {v3 : Int32} {v4 : Nat} {v5 : Nat} {t0 : Int32} {k n : Nat} {px' : String → St → Prop} {Qc : Array Value → State → Outcome → State → Prop}  (kt : ¬ t0 = 1000000 → K p l e rX11_put s m args below meth c 7 w k n (vx_MQ below Qc (XCs w px') args s rX11_put.cells rX11_put.slots (wA w)) S 74 [(3, .int v3), (4, .ref v4), (5, .ref v5), (6, .int t0)] []) (kf : t0 = 1000000 → K p l e rX11_put s m args below meth c 7 w k n (vx_MQ below Qc (XCs w px') args s rX11_put.cells rX11_put.slots (wA w)) S 64 [] []) : K p l e rX11_put s m args below meth c 7 w k n (vx_MQ below Qc (XCs w px') args s rX11_put.cells rX11_put.slots (wA w)) S 55 [(3, .int v3), (4, .ref v4), (5, .ref v5)] [.int t0] := by
  refine k_istore (lst' := [(6, .int t0), (3, .int v3), (4, .ref v4), (5, .ref v5)]) B (by decide) rfl dX11_put_55 ?_
  refine k_iload B 0 rfl dX11_put_57 ?_
  refine k_ldc (v := 1000000) B (in_of qtRX11_171) dX11_put_59 ?_
  refine k_icmp_ne (tgt := 74) B dX11_put_61 (by decide) (fun c => ?_) (fun c => ?_)
  · refine k_sub [1, 2, 3, 0] rfl ?_
    exact kt c
  · refine k_sub [] rfl ?_
    exact kf c
theorem bX11_put_64 (B : Bd p s m args meth c cX11_put 7 (wsOf yX11_put cX11_put 7 (some .int)) RX11 w (some .int) "put") (hl : l.stackTraces = false) (ht : ∀ x ∈ c.exceptionTable.toList, False) {k n : Nat} {px' : String → St → Prop} {Qc : Array Value → State → Outcome → State → Prop} (h1 : k + 1 ≤ rX11_put.cells) (h2 : n + 6 ≤ rX11_put.slots) (hx : px' nIS S) : K p l e rX11_put s m args below meth c 7 w k n (vx_MQ below Qc (XCs w px') args s rX11_put.cells rX11_put.slots (wA w)) S 64 [] [] := by
  exact k_throwS B hl ht (cls := nIS) (in_of qkRX11_172) (in_of qz_nIS) (List.mem_of_getElem? (i := 1) rfl) (hat_of B (fun w h => in_of h) at1_nIS at2_nIS (List.mem_of_getElem? (i := 2) rfl)) at3_nIS at4_nIS dX11_put_64 dX11_put_67 dX11_put_68 dX11_put_70 dX11_put_73 (Nat.le_of_ble_eq_true rfl) (Nat.le_of_ble_eq_true rfl) h1 h2 h1 h2 (hx)
theorem bX11_put_74 (B : Bd p s m args meth c cX11_put 7 (wsOf yX11_put cX11_put 7 (some .int)) RX11 w (some .int) "put") (hl : l.stackTraces = false) (ht : ∀ x ∈ c.exceptionTable.toList, False) {v3 : Int32} {v4 : Nat} {v5 : Nat} {v6 : Int32} {post : St → Prop} {k n : Nat} {px' : String → St → Prop} {Qc : Array Value → State → Outcome → State → Prop} (hc : ConV l yX11_putIn (wsOf yX11_putIn cX11_putIn 3 none) rX11_putIn w S [.ref v4, .ref v5, .int v3] post) (h1 : k + 0 ≤ rX11_put.cells) (h2 : n + 0 ≤ rX11_put.slots) (kk : ∀ (S' : St), post S' → K p l e rX11_put s m args below meth c 7 w k n (vx_MQ below Qc (XCs w px') args s rX11_put.cells rX11_put.slots (wA w)) S' 82 [(6, .int v6)] []) : K p l e rX11_put s m args below meth c 7 w k n (vx_MQ below Qc (XCs w px') args s rX11_put.cells rX11_put.slots (wA w)) S 74 [(3, .int v3), (4, .ref v4), (5, .ref v5), (6, .int v6)] [] := by
  refine k_aload B 1 rfl dX11_put_74 ?_
  refine k_aload B 2 rfl dX11_put_76 ?_
  refine k_iload_n B 0 rfl rfl dX11_put_78 ?_
  refine callS_V (st := []) B [.ref v4, .ref v5, .int v3] (hc) (va_cwS 3 B.1.2.2.2.2 (gS qlRX11_177 qsX11_putIn qzRX11 qcX11_putIn) rfl rfl rfl (by decide +kernel) ⟨Nat.le_of_ble_eq_true rfl, Nat.le_of_ble_eq_true rfl⟩) rfl (Nat.le_of_ble_eq_true rfl) rfl dX11_put_79 ⟨h1, h2⟩ (fun S' hp => ?_)
  refine k_sub [3] rfl ?_
  exact kk S' hp
theorem bX11_put_82 (B : Bd p s m args meth c cX11_put 7 (wsOf yX11_put cX11_put 7 (some .int)) RX11 w (some .int) "put") (hl : l.stackTraces = false) (ht : ∀ x ∈ c.exceptionTable.toList, False) {v6 : Int32} {post : Int32 → St → Prop} {k n : Nat} {px' : String → St → Prop} (h1 : k ≤ rX11_put.cells) (h2 : n ≤ rX11_put.slots) (hq : post v6 S) : K p l e rX11_put s m args below meth c 7 w k n (vx_MQ below (va_Qi post (fun S' t => Hd w S' t.heap) (wA w)) (XCs w px') args s rX11_put.cells rX11_put.slots (wA w)) S 82 [(6, .int v6)] [] := by
  refine k_iload B 0 rfl dX11_put_82 ?_
  exact k_xret_I h1 h2 (ret_I B rfl dX11_put_84 (hq))
theorem bX11_take_0 (B : Bd p s m args meth c cX11_take 5 (wsOf yX11_take cX11_take 5 (some .int)) RX11 w (some .int) "take") (hl : l.stackTraces = false) (ht : ∀ x ∈ c.exceptionTable.toList, False) {v0 : Nat} {v1 : Int32} {x1 : Nat} {post : Int32 → St → Prop} {k n : Nat} {px' : String → St → Prop} {Qc : Array Value → State → Outcome → State → Prop} (h1 : kd S v0 = 13) (h2 : gP S 772 v0 = some x1) (hc : ConI l yJx4a65c_size_8abf5 (wsOf yJx4a65c_size_8abf5 cJx4a65c_size_8abf5 1 (some .int)) rJx4a65c_size_8abf5 w S [.ref x1] post) (h3 : k + 0 ≤ rX11_take.cells) (h4 : n + 0 ≤ rX11_take.slots) (h5 : kd S x1 = 1) (kk : ∀ (r : Int32) (S' : St), post r S' → K p l e rX11_take s m args below meth c 5 w k n (vx_MQ below Qc (XCs w px') args s rX11_take.cells rX11_take.slots (wA w)) S' 8 [(0, .ref v0), (1, .int v1)] [.int r, .int v1]) : K p l e rX11_take s m args below meth c 5 w k n (vx_MQ below Qc (XCs w px') args s rX11_take.cells rX11_take.slots (wA w)) S 0 [(0, .ref v0), (1, .int v1)] [] := by
  refine k_iload_n B 1 rfl rfl dX11_take_0 ?_
  refine k_aload_n B 0 rfl rfl dX11_take_1 ?_
  refine k_getP (f := 772) (r := gP S 772 v0) B 12 4 rfl (by decide) rfl (by decide) rfl rfl (fun w h => in_of (uw_12 w h)) (in_of qfRX11_29) dX11_take_2 h1 rfl ?_
  rw [h2]; change K _ _ _ _ _ _ _ _ _ _ _ _ _ _ _ _ _ _ (.ref x1 :: _)
  refine callV_I (st := [.int v1]) B [] (hc) (cwV 0 B.1.2.2.2.2 (gV qlRX11_101 qiJx4a65c_size_8abf5 qeJx4a65c_size_8abf5 qzRJx4a65c qcJx4a65c_size_8abf5) rfl rfl rfl (by decide +kernel) ⟨Nat.le_of_ble_eq_true rfl, Nat.le_of_ble_eq_true rfl⟩) rfl rfl (by decide) h5 (Nat.le_of_ble_eq_true rfl) rfl dX11_take_5 ⟨h3, h4⟩ (fun r S' hp => ?_)
  exact kk r S' hp
theorem bX11_take_8 (B : Bd p s m args meth c cX11_take 5 (wsOf yX11_take cX11_take 5 (some .int)) RX11 w (some .int) "take") (hl : l.stackTraces = false) (ht : ∀ x ∈ c.exceptionTable.toList, False) {v0 : Nat} {v1 : Int32} {t0 : Int32} {t1 : Int32} {px : String → St → Prop} {post : St → Prop} {k n : Nat} {px' : String → St → Prop} {Qc : Array Value → State → Outcome → State → Prop} (hc : ConXV l yX11_needIndex (wsOf yX11_needIndex cX11_needIndex 2 none) rX11_needIndex w S [.int t0, .int t1] post px) (h1 : k + 1 ≤ rX11_take.cells) (h2 : n + 6 ≤ rX11_take.slots) (kx : ∀ (E : String) (S' : St), px E S' → px' E S') (kk : ∀ (S' : St), post S' → K p l e rX11_take s m args below meth c 5 w (k + 1) (n + 6) (vx_MQ below Qc (XCs w px') args s rX11_take.cells rX11_take.slots (wA w)) S' 11 [(0, .ref v0), (1, .int v1)] []) : K p l e rX11_take s m args below meth c 5 w k n (vx_MQ below Qc (XCs w px') args s rX11_take.cells rX11_take.slots (wA w)) S 8 [(0, .ref v0), (1, .int v1)] [.int t1, .int t0] := by
  refine tcallS_V (st := []) B ht [.int t0, .int t1] (hc) (va_cwS 2 B.1.2.2.2.2 (gS qlRX11_71 qsX11_needIndex qzRX11 qcX11_needIndex) rfl rfl rfl (by decide +kernel) ⟨Nat.le_of_ble_eq_true rfl, Nat.le_of_ble_eq_true rfl⟩) rfl (Nat.le_of_ble_eq_true rfl) rfl dX11_take_8 ⟨h1, h2⟩ ⟨h1, h2⟩ (kx) (fun S' hp => ?_)
  exact kk S' hp
theorem bX11_take_11 (B : Bd p s m args meth c cX11_take 5 (wsOf yX11_take cX11_take 5 (some .int)) RX11 w (some .int) "take") (hl : l.stackTraces = false) (ht : ∀ x ∈ c.exceptionTable.toList, False) {v0 : Nat} {v1 : Int32} {x1 : Nat} {post : Nat → St → Prop} {k n : Nat} {px' : String → St → Prop} {Qc : Array Value → State → Outcome → State → Prop} (h1 : kd S v0 = 13) (h2 : gP S 772 v0 = some x1) (hc : ConR l yJx4a65c_get_915e3 (wsOf yJx4a65c_get_915e3 cJx4a65c_get_915e3 2 (some (.object "java/lang/Object"))) rJx4a65c_get_915e3 w S [.ref x1, .int v1] post) (h3 : k + 0 ≤ rX11_take.cells) (h4 : n + 0 ≤ rX11_take.slots) (h5 : kd S x1 = 1) (kk : ∀ (r : Nat) (S' : St), post r S' → K p l e rX11_take s m args below meth c 5 w k n (vx_MQ below Qc (XCs w px') args s rX11_take.cells rX11_take.slots (wA w)) S' 19 [(0, .ref v0)] [.ref r]) : K p l e rX11_take s m args below meth c 5 w k n (vx_MQ below Qc (XCs w px') args s rX11_take.cells rX11_take.slots (wA w)) S 11 [(0, .ref v0), (1, .int v1)] [] := by
  refine k_aload_n B 0 rfl rfl dX11_take_11 ?_
  refine k_getP (f := 772) (r := gP S 772 v0) B 12 4 rfl (by decide) rfl (by decide) rfl rfl (fun w h => in_of (uw_12 w h)) (in_of qfRX11_29) dX11_take_12 h1 rfl ?_
  rw [h2]; change K _ _ _ _ _ _ _ _ _ _ _ _ _ _ _ _ _ _ (.ref x1 :: _)
  refine k_iload_n B 1 rfl rfl dX11_take_15 ?_
  refine callV_R (st := []) B [.int v1] (hc) (cwV 1 B.1.2.2.2.2 (gV qlRX11_124 qiJx4a65c_get_915e3 qeJx4a65c_get_915e3 qzRJx4a65c qcJx4a65c_get_915e3) rfl rfl rfl (by decide +kernel) ⟨Nat.le_of_ble_eq_true rfl, Nat.le_of_ble_eq_true rfl⟩) rfl rfl (by decide) h5 (Nat.le_of_ble_eq_true rfl) rfl dX11_take_16 ⟨h3, h4⟩ (fun r S' hp => ?_)
  refine k_sub [0] rfl ?_
  exact kk r S' hp
theorem bX11_take_19 (B : Bd p s m args meth c cX11_take 5 (wsOf yX11_take cX11_take 5 (some .int)) RX11 w (some .int) "take") (hl : l.stackTraces = false) (ht : ∀ x ∈ c.exceptionTable.toList, False) {v0 : Nat} {t0 : Nat} {k n : Nat} {px' : String → St → Prop} {Qc : Array Value → State → Outcome → State → Prop} (h1 : kd S t0 = 5) (kt : ∀ x, gP S 263 t0 = some x → K p l e rX11_take s m args below meth c 5 w k n (vx_MQ below Qc (XCs w px') args s rX11_take.cells rX11_take.slots (wA w)) S 40 [(0, .ref v0), (2, .ref t0)] []) (kf : gP S 263 t0 = none → K p l e rX11_take s m args below meth c 5 w k n (vx_MQ below Qc (XCs w px') args s rX11_take.cells rX11_take.slots (wA w)) S 30 [] []) : K p l e rX11_take s m args below meth c 5 w k n (vx_MQ below Qc (XCs w px') args s rX11_take.cells rX11_take.slots (wA w)) S 19 [(0, .ref v0)] [.ref t0] := by
  refine k_cast B 4 rfl (by decide) (in_of qkRX11_144) dX11_take_19 h1 ?_
  refine k_astore_n (lst' := [(2, .ref t0), (0, .ref v0)]) B rfl (by decide) rfl dX11_take_22 ?_
  refine k_aload_n B 0 rfl rfl dX11_take_23 ?_
  refine k_getP (f := 263) (r := gP S 263 t0) B 4 7 rfl (by decide) rfl (by decide) rfl rfl (fun w h => in_of (uw_4 w h)) (in_of qfRX11_181) dX11_take_24 h1 rfl ?_
  refine k_ifnonnull (r := gP S 263 t0) (tgt := 40) B dX11_take_27 (by decide) (fun x c => ?_) (fun c => ?_)
  · refine k_sub [1, 0] rfl ?_
    exact kt x c
  · refine k_sub [] rfl ?_
    exact kf c
theorem bX11_take_30 (B : Bd p s m args meth c cX11_take 5 (wsOf yX11_take cX11_take 5 (some .int)) RX11 w (some .int) "take") (hl : l.stackTraces = false) (ht : ∀ x ∈ c.exceptionTable.toList, False) {k n : Nat} {px' : String → St → Prop} {Qc : Array Value → State → Outcome → State → Prop} (h1 : k + 1 ≤ rX11_take.cells) (h2 : n + 6 ≤ rX11_take.slots) (hx : px' nIS S) : K p l e rX11_take s m args below meth c 5 w k n (vx_MQ below Qc (XCs w px') args s rX11_take.cells rX11_take.slots (wA w)) S 30 [] [] := by
  exact k_throwS B hl ht (cls := nIS) (in_of qkRX11_172) (in_of qz_nIS) (List.mem_of_getElem? (i := 2) rfl) (hat_of B (fun w h => in_of h) at1_nIS at2_nIS (List.mem_of_getElem? (i := 2) rfl)) at3_nIS at4_nIS dX11_take_30 dX11_take_33 dX11_take_34 dX11_take_36 dX11_take_39 (Nat.le_of_ble_eq_true rfl) (Nat.le_of_ble_eq_true rfl) h1 h2 h1 h2 (hx)
theorem bX11_take_40 (B : Bd p s m args meth c cX11_take 5 (wsOf yX11_take cX11_take 5 (some .int)) RX11 w (some .int) "take") (hl : l.stackTraces = false) (ht : ∀ x ∈ c.exceptionTable.toList, False) {v0 : Nat} {v2 : Nat} {x1 : Nat} {x2 : Nat} {x3 : Nat} {post : Int32 → St → Prop} {k n : Nat} {px' : String → St → Prop} {Qc : Array Value → State → Outcome → State → Prop} (h1 : kd S v2 = 5) (h2 : gP S 263 v2 = some x1) (h3 : kd S v0 = 13) (h4 : gP S 773 v0 = some x2) (h5 : kd S x1 = 12) (h6 : gP S 708 x1 = some x3) (hc : ConI l yX7_follow (wsOf yX7_follow cX7_follow 6 (some .int)) rX7_follow w S [.ref x2, .ref x1, .ref x3] post) (h7 : k + 0 ≤ rX11_take.cells) (h8 : n + 0 ≤ rX11_take.slots) (h9 : kd S x2 = 9) (kk : ∀ (r : Int32) (S' : St), post r S' → K p l e rX11_take s m args below meth c 5 w k n (vx_MQ below Qc (XCs w px') args s rX11_take.cells rX11_take.slots (wA w)) S' 57 [(0, .ref v0), (2, .ref v2), (3, .ref x1)] [.int r]) : K p l e rX11_take s m args below meth c 5 w k n (vx_MQ below Qc (XCs w px') args s rX11_take.cells rX11_take.slots (wA w)) S 40 [(0, .ref v0), (2, .ref v2)] [] := by
  refine k_aload_n B 1 rfl rfl dX11_take_40 ?_
  refine k_getP (f := 263) (r := gP S 263 v2) B 4 7 rfl (by decide) rfl (by decide) rfl rfl (fun w h => in_of (uw_4 w h)) (in_of qfRX11_181) dX11_take_41 h1 rfl ?_
  rw [h2]; change K _ _ _ _ _ _ _ _ _ _ _ _ _ _ _ _ _ _ (.ref x1 :: _)
  refine k_astore_n (lst' := [(3, .ref x1), (0, .ref v0), (2, .ref v2)]) B rfl (by decide) rfl dX11_take_44 ?_
  refine k_aload_n B 1 rfl rfl dX11_take_45 ?_
  refine k_getP (f := 773) (r := gP S 773 v0) B 12 5 rfl (by decide) rfl (by decide) rfl rfl (fun w h => in_of (uw_12 w h)) (in_of qfRX11_37) dX11_take_46 h3 rfl ?_
  rw [h4]; change K _ _ _ _ _ _ _ _ _ _ _ _ _ _ _ _ _ _ (.ref x2 :: _)
  refine k_aload_n B 0 rfl rfl dX11_take_49 ?_
  refine k_aload_n B 0 rfl rfl dX11_take_50 ?_
  refine k_getP (f := 708) (r := gP S 708 x1) B 11 4 rfl (by decide) rfl (by decide) rfl rfl (fun w h => in_of (uw_11 w h)) (in_of qfRX11_187) dX11_take_51 h5 rfl ?_
  rw [h6]; change K _ _ _ _ _ _ _ _ _ _ _ _ _ _ _ _ _ _ (.ref x3 :: _)
  refine callV_I (st := []) B [.ref x1, .ref x3] (hc) (cwV 2 B.1.2.2.2.2 (gV qlRX11_190 qiX7_follow qeX7_follow qzRX7 qcX7_follow) rfl rfl rfl (by decide +kernel) ⟨Nat.le_of_ble_eq_true rfl, Nat.le_of_ble_eq_true rfl⟩) rfl rfl (by decide) h9 (Nat.le_of_ble_eq_true rfl) rfl dX11_take_54 ⟨h7, h8⟩ (fun r S' hp => ?_)
  refine k_sub [1, 2, 0] rfl ?_
  exact kk r S' hp
theorem bX11_take_57 (B : Bd p s m args meth c cX11_take 5 (wsOf yX11_take cX11_take 5 (some .int)) RX11 w (some .int) "take") (hl : l.stackTraces = false) (ht : ∀ x ∈ c.exceptionTable.toList, False) {v0 : Nat} {v2 : Nat} {v3 : Nat} {t0 : Int32} {post : St → Prop} {k n : Nat} {px' : String → St → Prop} {Qc : Array Value → State → Outcome → State → Prop} (hc : ConV l yX11_takeOut (wsOf yX11_takeOut cX11_takeOut 1 none) rX11_takeOut w S [.ref v2] post) (h1 : k + 0 ≤ rX11_take.cells) (h2 : n + 0 ≤ rX11_take.slots) (kk : ∀ (S' : St), post S' → K p l e rX11_take s m args below meth c 5 w k n (vx_MQ below Qc (XCs w px') args s rX11_take.cells rX11_take.slots (wA w)) S' 63 [(0, .ref v0), (3, .ref v3), (4, .int t0)] []) : K p l e rX11_take s m args below meth c 5 w k n (vx_MQ below Qc (XCs w px') args s rX11_take.cells rX11_take.slots (wA w)) S 57 [(0, .ref v0), (2, .ref v2), (3, .ref v3)] [.int t0] := by
  refine k_istore (lst' := [(4, .int t0), (0, .ref v0), (2, .ref v2), (3, .ref v3)]) B (by decide) rfl dX11_take_57 ?_
  refine k_aload_n B 2 rfl rfl dX11_take_59 ?_
  refine callS_V (st := []) B [.ref v2] (hc) (va_cwS 1 B.1.2.2.2.2 (gS qlRX11_194 qsX11_takeOut qzRX11 qcX11_takeOut) rfl rfl rfl (by decide +kernel) ⟨Nat.le_of_ble_eq_true rfl, Nat.le_of_ble_eq_true rfl⟩) rfl (Nat.le_of_ble_eq_true rfl) rfl dX11_take_60 ⟨h1, h2⟩ (fun S' hp => ?_)
  refine k_sub [1, 3, 0] rfl ?_
  exact kk S' hp
theorem bX11_take_63 (B : Bd p s m args meth c cX11_take 5 (wsOf yX11_take cX11_take 5 (some .int)) RX11 w (some .int) "take") (hl : l.stackTraces = false) (ht : ∀ x ∈ c.exceptionTable.toList, False) {v0 : Nat} {v3 : Nat} {v4 : Int32} {x1 : Nat} {x2 : Nat} {post : Int32 → St → Prop} {k n : Nat} {px' : String → St → Prop} {Qc : Array Value → State → Outcome → State → Prop} (h1 : kd S v0 = 13) (h2 : gP S 773 v0 = some x1) (h3 : kd S v3 = 12) (h4 : gP S 708 v3 = some x2) (hc : ConI l yX7_follow (wsOf yX7_follow cX7_follow 6 (some .int)) rX7_follow w S [.ref x1, .ref v3, .ref x2] post) (h5 : k + 0 ≤ rX11_take.cells) (h6 : n + 0 ≤ rX11_take.slots) (h7 : kd S x1 = 9) (kk : ∀ (r : Int32) (S' : St), post r S' → K p l e rX11_take s m args below meth c 5 w k n (vx_MQ below Qc (XCs w px') args s rX11_take.cells rX11_take.slots (wA w)) S' 77 [] [.int r, .int v4]) : K p l e rX11_take s m args below meth c 5 w k n (vx_MQ below Qc (XCs w px') args s rX11_take.cells rX11_take.slots (wA w)) S 63 [(0, .ref v0), (3, .ref v3), (4, .int v4)] [] := by
  refine k_iload B 2 rfl dX11_take_63 ?_
  refine k_aload_n B 0 rfl rfl dX11_take_65 ?_
  refine k_getP (f := 773) (r := gP S 773 v0) B 12 5 rfl (by decide) rfl (by decide) rfl rfl (fun w h => in_of (uw_12 w h)) (in_of qfRX11_37) dX11_take_66 h1 rfl ?_
  rw [h2]; change K _ _ _ _ _ _ _ _ _ _ _ _ _ _ _ _ _ _ (.ref x1 :: _)
  refine k_aload_n B 1 rfl rfl dX11_take_69 ?_
  refine k_aload_n B 1 rfl rfl dX11_take_70 ?_
  refine k_getP (f := 708) (r := gP S 708 v3) B 11 4 rfl (by decide) rfl (by decide) rfl rfl (fun w h => in_of (uw_11 w h)) (in_of qfRX11_187) dX11_take_71 h3 rfl ?_
  rw [h4]; change K _ _ _ _ _ _ _ _ _ _ _ _ _ _ _ _ _ _ (.ref x2 :: _)
  refine callV_I (st := [.int v4]) B [.ref v3, .ref x2] (hc) (cwV 2 B.1.2.2.2.2 (gV qlRX11_190 qiX7_follow qeX7_follow qzRX7 qcX7_follow) rfl rfl rfl (by decide +kernel) ⟨Nat.le_of_ble_eq_true rfl, Nat.le_of_ble_eq_true rfl⟩) rfl rfl (by decide) h7 (Nat.le_of_ble_eq_true rfl) rfl dX11_take_74 ⟨h5, h6⟩ (fun r S' hp => ?_)
  refine k_sub [] rfl ?_
  exact kk r S' hp
theorem bX11_take_77 (B : Bd p s m args meth c cX11_take 5 (wsOf yX11_take cX11_take 5 (some .int)) RX11 w (some .int) "take") (hl : l.stackTraces = false) (ht : ∀ x ∈ c.exceptionTable.toList, False) {t0 : Int32} {t1 : Int32} {post : Int32 → St → Prop} {k n : Nat} {px' : String → St → Prop} (h1 : k ≤ rX11_take.cells) (h2 : n ≤ rX11_take.slots) (hq : post (t0 - t1) S) : K p l e rX11_take s m args below meth c 5 w k n (vx_MQ below (va_Qi post (fun S' t => Hd w S' t.heap) (wA w)) (XCs w px') args s rX11_take.cells rX11_take.slots (wA w)) S 77 [] [.int t1, .int t0] := by
  refine k_isub B dX11_take_77 ?_
  exact k_xret_I h1 h2 (ret_I B rfl dX11_take_78 (hq))
theorem bX11_route_0 (B : Bd p s m args meth c cX11_route 3 (wsOf yX11_route cX11_route 3 (some .int)) RX11 w (some .int) "route") (hl : l.stackTraces = false) (ht : ∀ x ∈ c.exceptionTable.toList, False) {v0 : Nat} {v1 : Int32} {v2 : Int32} {px : String → St → Prop} {post : St → Prop} {k n : Nat} {px' : String → St → Prop} {Qc : Array Value → State → Outcome → State → Prop} (hc : ConXV l yX11_needStop (wsOf yX11_needStop cX11_needStop 3 none) rX11_needStop w S [.ref v0, .int v1, .int v2] post px) (h1 : k + 2 ≤ rX11_route.cells) (h2 : n + 12 ≤ rX11_route.slots) (h3 : kd S v0 = 13) (kx : ∀ (E : String) (S' : St), px E S' → px' E S') (kk : ∀ (S' : St), post S' → K p l e rX11_route s m args below meth c 3 w (k + 2) (n + 12) (vx_MQ below Qc (XCs w px') args s rX11_route.cells rX11_route.slots (wA w)) S' 6 [(0, .ref v0), (1, .int v1), (2, .int v2)] []) : K p l e rX11_route s m args below meth c 3 w k n (vx_MQ below Qc (XCs w px') args s rX11_route.cells rX11_route.slots (wA w)) S 0 [(0, .ref v0), (1, .int v1), (2, .int v2)] [] := by
  refine k_aload_n B 0 rfl rfl dX11_route_0 ?_
  refine k_iload_n B 1 rfl rfl dX11_route_1 ?_
  refine k_iload_n B 2 rfl rfl dX11_route_2 ?_
  refine tcallV_V (st := []) B ht [.int v1, .int v2] (hc) (cwV 2 B.1.2.2.2.2 (gV qlRX11_198 qiX11_needStop qeX11_needStop qzRX11 qcX11_needStop) rfl rfl rfl (by decide +kernel) ⟨Nat.le_of_ble_eq_true rfl, Nat.le_of_ble_eq_true rfl⟩) rfl rfl (by decide) h3 (Nat.le_of_ble_eq_true rfl) rfl dX11_route_3 ⟨h1, h2⟩ ⟨h1, h2⟩ (kx) (fun S' hp => ?_)
  exact kk S' hp
theorem bX11_route_6 (B : Bd p s m args meth c cX11_route 3 (wsOf yX11_route cX11_route 3 (some .int)) RX11 w (some .int) "route") (hl : l.stackTraces = false) (ht : ∀ x ∈ c.exceptionTable.toList, False) {v0 : Nat} {v1 : Int32} {v2 : Int32} {x1 : Nat} {post : Nat → St → Prop} {k n : Nat} {px' : String → St → Prop} {Qc : Array Value → State → Outcome → State → Prop} (h1 : kd S v0 = 13) (h2 : gP S 771 v0 = some x1) (hc : ConR l yJx4a65c_get_915e3 (wsOf yJx4a65c_get_915e3 cJx4a65c_get_915e3 2 (some (.object "java/lang/Object"))) rJx4a65c_get_915e3 w S [.ref x1, .int v1] post) (h3 : k + 0 ≤ rX11_route.cells) (h4 : n + 0 ≤ rX11_route.slots) (h5 : kd S x1 = 1) (kk : ∀ (r : Nat) (S' : St), post r S' → K p l e rX11_route s m args below meth c 3 w k n (vx_MQ below Qc (XCs w px') args s rX11_route.cells rX11_route.slots (wA w)) S' 14 [(2, .int v2)] [.ref r]) : K p l e rX11_route s m args below meth c 3 w k n (vx_MQ below Qc (XCs w px') args s rX11_route.cells rX11_route.slots (wA w)) S 6 [(0, .ref v0), (1, .int v1), (2, .int v2)] [] := by
  refine k_aload_n B 0 rfl rfl dX11_route_6 ?_
  refine k_getP (f := 771) (r := gP S 771 v0) B 12 3 rfl (by decide) rfl (by decide) rfl rfl (fun w h => in_of (uw_12 w h)) (in_of qfRX11_26) dX11_route_7 h1 rfl ?_
  rw [h2]; change K _ _ _ _ _ _ _ _ _ _ _ _ _ _ _ _ _ _ (.ref x1 :: _)
  refine k_iload_n B 1 rfl rfl dX11_route_10 ?_
  refine callV_R (st := []) B [.int v1] (hc) (cwV 1 B.1.2.2.2.2 (gV qlRX11_124 qiJx4a65c_get_915e3 qeJx4a65c_get_915e3 qzRJx4a65c qcJx4a65c_get_915e3) rfl rfl rfl (by decide +kernel) ⟨Nat.le_of_ble_eq_true rfl, Nat.le_of_ble_eq_true rfl⟩) rfl rfl (by decide) h5 (Nat.le_of_ble_eq_true rfl) rfl dX11_route_11 ⟨h3, h4⟩ (fun r S' hp => ?_)
  refine k_sub [2] rfl ?_
  exact kk r S' hp
theorem bX11_route_14 (B : Bd p s m args meth c cX11_route 3 (wsOf yX11_route cX11_route 3 (some .int)) RX11 w (some .int) "route") (hl : l.stackTraces = false) (ht : ∀ x ∈ c.exceptionTable.toList, False) {v2 : Int32} {t0 : Nat} {x1 : Nat} {post : Nat → St → Prop} {k n : Nat} {px' : String → St → Prop} {Qc : Array Value → State → Outcome → State → Prop} (h1 : kd S t0 = 12) (h2 : gP S 708 t0 = some x1) (hc : ConR l yX6_at (wsOf yX6_at cX6_at 2 (some (.object "LastMile$Parcel"))) rX6_at w S [.ref x1, .int v2] post) (h3 : k + 0 ≤ rX11_route.cells) (h4 : n + 0 ≤ rX11_route.slots) (h5 : kd S x1 = 8) (kk : ∀ (r : Nat) (S' : St), post r S' → K p l e rX11_route s m args below meth c 3 w k n (vx_MQ below Qc (XCs w px') args s rX11_route.cells rX11_route.slots (wA w)) S' 24 [] [.ref r]) : K p l e rX11_route s m args below meth c 3 w k n (vx_MQ below Qc (XCs w px') args s rX11_route.cells rX11_route.slots (wA w)) S 14 [(2, .int v2)] [.ref t0] := by
  refine k_cast B 11 rfl (by decide) (in_of qkRX11_139) dX11_route_14 h1 ?_
  refine k_getP (f := 708) (r := gP S 708 t0) B 11 4 rfl (by decide) rfl (by decide) rfl rfl (fun w h => in_of (uw_11 w h)) (in_of qfRX11_187) dX11_route_17 h1 rfl ?_
  rw [h2]; change K _ _ _ _ _ _ _ _ _ _ _ _ _ _ _ _ _ _ (.ref x1 :: _)
  refine k_iload_n B 0 rfl rfl dX11_route_20 ?_
  refine callV_R (st := []) B [.int v2] (hc) (cwV 1 B.1.2.2.2.2 (gV qlRX11_201 qiX6_at qeX6_at qzRX6 qcX6_at) rfl rfl rfl (by decide +kernel) ⟨Nat.le_of_ble_eq_true rfl, Nat.le_of_ble_eq_true rfl⟩) rfl rfl (by decide) h5 (Nat.le_of_ble_eq_true rfl) rfl dX11_route_21 ⟨h3, h4⟩ (fun r S' hp => ?_)
  refine k_sub [] rfl ?_
  exact kk r S' hp
theorem bX11_route_24 (B : Bd p s m args meth c cX11_route 3 (wsOf yX11_route cX11_route 3 (some .int)) RX11 w (some .int) "route") (hl : l.stackTraces = false) (ht : ∀ x ∈ c.exceptionTable.toList, False) {t0 : Nat} {post : Int32 → St → Prop} {k n : Nat} {px' : String → St → Prop} (h1 : kd S t0 = 5) (h2 : k ≤ rX11_route.cells) (h3 : n ≤ rX11_route.slots) (hq : post (gI S 256 t0) S) : K p l e rX11_route s m args below meth c 3 w k n (vx_MQ below (va_Qi post (fun S' t => Hd w S' t.heap) (wA w)) (XCs w px') args s rX11_route.cells rX11_route.slots (wA w)) S 24 [] [.ref t0] := by
  refine k_getI (f := 256) (v := gI S 256 t0) B 4 0 rfl (by decide) rfl (by decide) rfl rfl (fun w h => in_of (uw_4 w h)) (in_of qfRX11_205) dX11_route_24 h1 rfl ?_
  exact k_xret_I h2 h3 (ret_I B rfl dX11_route_27 (hq))
theorem bX11_van_0 (B : Bd p s m args meth c cX11_van 3 (wsOf yX11_van cX11_van 3 (some .int)) RX11 w (some .int) "van") (hl : l.stackTraces = false) (ht : ∀ x ∈ c.exceptionTable.toList, False) {v0 : Nat} {v1 : Int32} {v2 : Int32} {x1 : Nat} {post : Int32 → St → Prop} {k n : Nat} {px' : String → St → Prop} {Qc : Array Value → State → Outcome → State → Prop} (h1 : kd S v0 = 13) (h2 : gP S 771 v0 = some x1) (hc : ConI l yJx4a65c_size_8abf5 (wsOf yJx4a65c_size_8abf5 cJx4a65c_size_8abf5 1 (some .int)) rJx4a65c_size_8abf5 w S [.ref x1] post) (h3 : k + 0 ≤ rX11_van.cells) (h4 : n + 0 ≤ rX11_van.slots) (h5 : kd S x1 = 1) (kk : ∀ (r : Int32) (S' : St), post r S' → K p l e rX11_van s m args below meth c 3 w k n (vx_MQ below Qc (XCs w px') args s rX11_van.cells rX11_van.slots (wA w)) S' 8 [(0, .ref v0), (1, .int v1), (2, .int v2)] [.int r, .int v1]) : K p l e rX11_van s m args below meth c 3 w k n (vx_MQ below Qc (XCs w px') args s rX11_van.cells rX11_van.slots (wA w)) S 0 [(0, .ref v0), (1, .int v1), (2, .int v2)] [] := by
  refine k_iload_n B 1 rfl rfl dX11_van_0 ?_
  refine k_aload_n B 0 rfl rfl dX11_van_1 ?_
  refine k_getP (f := 771) (r := gP S 771 v0) B 12 3 rfl (by decide) rfl (by decide) rfl rfl (fun w h => in_of (uw_12 w h)) (in_of qfRX11_26) dX11_van_2 h1 rfl ?_
  rw [h2]; change K _ _ _ _ _ _ _ _ _ _ _ _ _ _ _ _ _ _ (.ref x1 :: _)
  refine callV_I (st := [.int v1]) B [] (hc) (cwV 0 B.1.2.2.2.2 (gV qlRX11_101 qiJx4a65c_size_8abf5 qeJx4a65c_size_8abf5 qzRJx4a65c qcJx4a65c_size_8abf5) rfl rfl rfl (by decide +kernel) ⟨Nat.le_of_ble_eq_true rfl, Nat.le_of_ble_eq_true rfl⟩) rfl rfl (by decide) h5 (Nat.le_of_ble_eq_true rfl) rfl dX11_van_5 ⟨h3, h4⟩ (fun r S' hp => ?_)
  exact kk r S' hp
theorem bX11_van_8 (B : Bd p s m args meth c cX11_van 3 (wsOf yX11_van cX11_van 3 (some .int)) RX11 w (some .int) "van") (hl : l.stackTraces = false) (ht : ∀ x ∈ c.exceptionTable.toList, False) {v0 : Nat} {v1 : Int32} {v2 : Int32} {t0 : Int32} {t1 : Int32} {px : String → St → Prop} {post : St → Prop} {k n : Nat} {px' : String → St → Prop} {Qc : Array Value → State → Outcome → State → Prop} (hc : ConXV l yX11_needIndex (wsOf yX11_needIndex cX11_needIndex 2 none) rX11_needIndex w S [.int t0, .int t1] post px) (h1 : k + 1 ≤ rX11_van.cells) (h2 : n + 6 ≤ rX11_van.slots) (kx : ∀ (E : String) (S' : St), px E S' → px' E S') (kk : ∀ (S' : St), post S' → K p l e rX11_van s m args below meth c 3 w (k + 1) (n + 6) (vx_MQ below Qc (XCs w px') args s rX11_van.cells rX11_van.slots (wA w)) S' 11 [(0, .ref v0), (1, .int v1), (2, .int v2)] []) : K p l e rX11_van s m args below meth c 3 w k n (vx_MQ below Qc (XCs w px') args s rX11_van.cells rX11_van.slots (wA w)) S 8 [(0, .ref v0), (1, .int v1), (2, .int v2)] [.int t1, .int t0] := by
  refine tcallS_V (st := []) B ht [.int t0, .int t1] (hc) (va_cwS 2 B.1.2.2.2.2 (gS qlRX11_71 qsX11_needIndex qzRX11 qcX11_needIndex) rfl rfl rfl (by decide +kernel) ⟨Nat.le_of_ble_eq_true rfl, Nat.le_of_ble_eq_true rfl⟩) rfl (Nat.le_of_ble_eq_true rfl) rfl dX11_van_8 ⟨h1, h2⟩ ⟨h1, h2⟩ (kx) (fun S' hp => ?_)
  exact kk S' hp
theorem bX11_van_11 (B : Bd p s m args meth c cX11_van 3 (wsOf yX11_van cX11_van 3 (some .int)) RX11 w (some .int) "van") (hl : l.stackTraces = false) (ht : ∀ x ∈ c.exceptionTable.toList, False) {v0 : Nat} {v1 : Int32} {v2 : Int32} {px : String → St → Prop} {post : St → Prop} {k n : Nat} {px' : String → St → Prop} {Qc : Array Value → State → Outcome → State → Prop} (hc : ConXV l yX11_needIndex (wsOf yX11_needIndex cX11_needIndex 2 none) rX11_needIndex w S [.int v2, .int 10] post px) (h1 : k + 1 ≤ rX11_van.cells) (h2 : n + 6 ≤ rX11_van.slots) (kx : ∀ (E : String) (S' : St), px E S' → px' E S') (kk : ∀ (S' : St), post S' → K p l e rX11_van s m args below meth c 3 w (k + 1) (n + 6) (vx_MQ below Qc (XCs w px') args s rX11_van.cells rX11_van.slots (wA w)) S' 17 [(0, .ref v0), (1, .int v1), (2, .int v2)] []) : K p l e rX11_van s m args below meth c 3 w k n (vx_MQ below Qc (XCs w px') args s rX11_van.cells rX11_van.slots (wA w)) S 11 [(0, .ref v0), (1, .int v1), (2, .int v2)] [] := by
  refine k_iload_n B 2 rfl rfl dX11_van_11 ?_
  refine k_bipush (v := 10) B (by decide) dX11_van_12 ?_
  refine tcallS_V (st := []) B ht [.int v2, .int 10] (hc) (va_cwS 2 B.1.2.2.2.2 (gS qlRX11_71 qsX11_needIndex qzRX11 qcX11_needIndex) rfl rfl rfl (by decide +kernel) ⟨Nat.le_of_ble_eq_true rfl, Nat.le_of_ble_eq_true rfl⟩) rfl (Nat.le_of_ble_eq_true rfl) rfl dX11_van_14 ⟨h1, h2⟩ ⟨h1, h2⟩ (kx) (fun S' hp => ?_)
  exact kk S' hp
theorem bX11_van_17 (B : Bd p s m args meth c cX11_van 3 (wsOf yX11_van cX11_van 3 (some .int)) RX11 w (some .int) "van") (hl : l.stackTraces = false) (ht : ∀ x ∈ c.exceptionTable.toList, False) {v0 : Nat} {v1 : Int32} {v2 : Int32} {x1 : Nat} {post : Nat → St → Prop} {k n : Nat} {px' : String → St → Prop} {Qc : Array Value → State → Outcome → State → Prop} (h1 : kd S v0 = 13) (h2 : gP S 771 v0 = some x1) (hc : ConR l yJx4a65c_get_915e3 (wsOf yJx4a65c_get_915e3 cJx4a65c_get_915e3 2 (some (.object "java/lang/Object"))) rJx4a65c_get_915e3 w S [.ref x1, .int v1] post) (h3 : k + 0 ≤ rX11_van.cells) (h4 : n + 0 ≤ rX11_van.slots) (h5 : kd S x1 = 1) (kk : ∀ (r : Nat) (S' : St), post r S' → K p l e rX11_van s m args below meth c 3 w k n (vx_MQ below Qc (XCs w px') args s rX11_van.cells rX11_van.slots (wA w)) S' 26 [(2, .int v2)] [.ref r, .ref v0]) : K p l e rX11_van s m args below meth c 3 w k n (vx_MQ below Qc (XCs w px') args s rX11_van.cells rX11_van.slots (wA w)) S 17 [(0, .ref v0), (1, .int v1), (2, .int v2)] [] := by
  refine k_aload_n B 0 rfl rfl dX11_van_17 ?_
  refine k_aload_n B 0 rfl rfl dX11_van_18 ?_
  refine k_getP (f := 771) (r := gP S 771 v0) B 12 3 rfl (by decide) rfl (by decide) rfl rfl (fun w h => in_of (uw_12 w h)) (in_of qfRX11_26) dX11_van_19 h1 rfl ?_
  rw [h2]; change K _ _ _ _ _ _ _ _ _ _ _ _ _ _ _ _ _ _ (.ref x1 :: _)
  refine k_iload_n B 1 rfl rfl dX11_van_22 ?_
  refine callV_R (st := [.ref v0]) B [.int v1] (hc) (cwV 1 B.1.2.2.2.2 (gV qlRX11_124 qiJx4a65c_get_915e3 qeJx4a65c_get_915e3 qzRJx4a65c qcJx4a65c_get_915e3) rfl rfl rfl (by decide +kernel) ⟨Nat.le_of_ble_eq_true rfl, Nat.le_of_ble_eq_true rfl⟩) rfl rfl (by decide) h5 (Nat.le_of_ble_eq_true rfl) rfl dX11_van_23 ⟨h3, h4⟩ (fun r S' hp => ?_)
  refine k_sub [2] rfl ?_
  exact kk r S' hp
theorem bX11_van_26 (B : Bd p s m args meth c cX11_van 3 (wsOf yX11_van cX11_van 3 (some .int)) RX11 w (some .int) "van") (hl : l.stackTraces = false) (ht : ∀ x ∈ c.exceptionTable.toList, False) {v2 : Int32} {t0 : Nat} {t1 : Nat} {post : Int32 → St → Prop} {k n : Nat} {px' : String → St → Prop} {Qc : Array Value → State → Outcome → State → Prop} (h1 : kd S t1 = 12) (hc : ConI l yX11_factOfVan (wsOf yX11_factOfVan cX11_factOfVan 4 (some .int)) rX11_factOfVan w S [.ref t0, .ref t1, .int v2] post) (h2 : k + 0 ≤ rX11_van.cells) (h3 : n + 0 ≤ rX11_van.slots) (h4 : kd S t0 = 13) (kk : ∀ (r : Int32) (S' : St), post r S' → K p l e rX11_van s m args below meth c 3 w k n (vx_MQ below Qc (XCs w px') args s rX11_van.cells rX11_van.slots (wA w)) S' 33 [] [.int r]) : K p l e rX11_van s m args below meth c 3 w k n (vx_MQ below Qc (XCs w px') args s rX11_van.cells rX11_van.slots (wA w)) S 26 [(2, .int v2)] [.ref t1, .ref t0] := by
  refine k_cast B 11 rfl (by decide) (in_of qkRX11_139) dX11_van_26 h1 ?_
  refine k_iload_n B 0 rfl rfl dX11_van_29 ?_
  refine callV_I (st := []) B [.ref t1, .int v2] (hc) (cwV 2 B.1.2.2.2.2 (gV qlRX11_208 qiX11_factOfVan qeX11_factOfVan qzRX11 qcX11_factOfVan) rfl rfl rfl (by decide +kernel) ⟨Nat.le_of_ble_eq_true rfl, Nat.le_of_ble_eq_true rfl⟩) rfl rfl (by decide) h4 (Nat.le_of_ble_eq_true rfl) rfl dX11_van_30 ⟨h2, h3⟩ (fun r S' hp => ?_)
  refine k_sub [] rfl ?_
  exact kk r S' hp
theorem bX11_van_33 (B : Bd p s m args meth c cX11_van 3 (wsOf yX11_van cX11_van 3 (some .int)) RX11 w (some .int) "van") (hl : l.stackTraces = false) (ht : ∀ x ∈ c.exceptionTable.toList, False) {t0 : Int32} {post : Int32 → St → Prop} {k n : Nat} {px' : String → St → Prop} (h1 : k ≤ rX11_van.cells) (h2 : n ≤ rX11_van.slots) (hq : post t0 S) : K p l e rX11_van s m args below meth c 3 w k n (vx_MQ below (va_Qi post (fun S' t => Hd w S' t.heap) (wA w)) (XCs w px') args s rX11_van.cells rX11_van.slots (wA w)) S 33 [] [.int t0] := by
  exact k_xret_I h1 h2 (ret_I B rfl dX11_van_33 (hq))
theorem bX11_stop_0 (B : Bd p s m args meth c cX11_stop 6 (wsOf yX11_stop cX11_stop 6 (some .int)) RX11 w (some .int) "stop") (hl : l.stackTraces = false) (ht : ∀ x ∈ c.exceptionTable.toList, False) {v0 : Nat} {v1 : Int32} {v2 : Int32} {v3 : Int32} {px : String → St → Prop} {post : St → Prop} {k n : Nat} {px' : String → St → Prop} {Qc : Array Value → State → Outcome → State → Prop} (hc : ConXV l yX11_needStop (wsOf yX11_needStop cX11_needStop 3 none) rX11_needStop w S [.ref v0, .int v1, .int v2] post px) (h1 : k + 2 ≤ rX11_stop.cells) (h2 : n + 12 ≤ rX11_stop.slots) (h3 : kd S v0 = 13) (kx : ∀ (E : String) (S' : St), px E S' → px' E S') (kk : ∀ (S' : St), post S' → K p l e rX11_stop s m args below meth c 6 w (k + 2) (n + 12) (vx_MQ below Qc (XCs w px') args s rX11_stop.cells rX11_stop.slots (wA w)) S' 6 [(0, .ref v0), (1, .int v1), (2, .int v2), (3, .int v3)] []) : K p l e rX11_stop s m args below meth c 6 w k n (vx_MQ below Qc (XCs w px') args s rX11_stop.cells rX11_stop.slots (wA w)) S 0 [(0, .ref v0), (1, .int v1), (2, .int v2), (3, .int v3)] [] := by
  refine k_aload_n B 0 rfl rfl dX11_stop_0 ?_
  refine k_iload_n B 1 rfl rfl dX11_stop_1 ?_
  refine k_iload_n B 2 rfl rfl dX11_stop_2 ?_
  refine tcallV_V (st := []) B ht [.int v1, .int v2] (hc) (cwV 2 B.1.2.2.2.2 (gV qlRX11_198 qiX11_needStop qeX11_needStop qzRX11 qcX11_needStop) rfl rfl rfl (by decide +kernel) ⟨Nat.le_of_ble_eq_true rfl, Nat.le_of_ble_eq_true rfl⟩) rfl rfl (by decide) h3 (Nat.le_of_ble_eq_true rfl) rfl dX11_stop_3 ⟨h1, h2⟩ ⟨h1, h2⟩ (kx) (fun S' hp => ?_)
  exact kk S' hp
theorem bX11_stop_6 (B : Bd p s m args meth c cX11_stop 6 (wsOf yX11_stop cX11_stop 6 (some .int)) RX11 w (some .int) "stop") (hl : l.stackTraces = false) (ht : ∀ x ∈ c.exceptionTable.toList, False) {v0 : Nat} {v1 : Int32} {v2 : Int32} {v3 : Int32} {px : String → St → Prop} {post : St → Prop} {k n : Nat} {px' : String → St → Prop} {Qc : Array Value → State → Outcome → State → Prop} (hc : ConXV l yX11_needIndex (wsOf yX11_needIndex cX11_needIndex 2 none) rX11_needIndex w S [.int v3, .int 4] post px) (h1 : k + 1 ≤ rX11_stop.cells) (h2 : n + 6 ≤ rX11_stop.slots) (kx : ∀ (E : String) (S' : St), px E S' → px' E S') (kk : ∀ (S' : St), post S' → K p l e rX11_stop s m args below meth c 6 w (k + 1) (n + 6) (vx_MQ below Qc (XCs w px') args s rX11_stop.cells rX11_stop.slots (wA w)) S' 11 [(0, .ref v0), (1, .int v1), (2, .int v2), (3, .int v3)] []) : K p l e rX11_stop s m args below meth c 6 w k n (vx_MQ below Qc (XCs w px') args s rX11_stop.cells rX11_stop.slots (wA w)) S 6 [(0, .ref v0), (1, .int v1), (2, .int v2), (3, .int v3)] [] := by
  refine k_iload_n B 3 rfl rfl dX11_stop_6 ?_
  refine k_iconst (v := 4) B (by decide) dX11_stop_7 ?_
  refine tcallS_V (st := []) B ht [.int v3, .int 4] (hc) (va_cwS 2 B.1.2.2.2.2 (gS qlRX11_71 qsX11_needIndex qzRX11 qcX11_needIndex) rfl rfl rfl (by decide +kernel) ⟨Nat.le_of_ble_eq_true rfl, Nat.le_of_ble_eq_true rfl⟩) rfl (Nat.le_of_ble_eq_true rfl) rfl dX11_stop_8 ⟨h1, h2⟩ ⟨h1, h2⟩ (kx) (fun S' hp => ?_)
  exact kk S' hp
theorem bX11_stop_11 (B : Bd p s m args meth c cX11_stop 6 (wsOf yX11_stop cX11_stop 6 (some .int)) RX11 w (some .int) "stop") (hl : l.stackTraces = false) (ht : ∀ x ∈ c.exceptionTable.toList, False) {v0 : Nat} {v1 : Int32} {v2 : Int32} {v3 : Int32} {x1 : Nat} {post : Nat → St → Prop} {k n : Nat} {px' : String → St → Prop} {Qc : Array Value → State → Outcome → State → Prop} (h1 : kd S v0 = 13) (h2 : gP S 771 v0 = some x1) (hc : ConR l yJx4a65c_get_915e3 (wsOf yJx4a65c_get_915e3 cJx4a65c_get_915e3 2 (some (.object "java/lang/Object"))) rJx4a65c_get_915e3 w S [.ref x1, .int v1] post) (h3 : k + 0 ≤ rX11_stop.cells) (h4 : n + 0 ≤ rX11_stop.slots) (h5 : kd S x1 = 1) (kk : ∀ (r : Nat) (S' : St), post r S' → K p l e rX11_stop s m args below meth c 6 w k n (vx_MQ below Qc (XCs w px') args s rX11_stop.cells rX11_stop.slots (wA w)) S' 19 [(0, .ref v0), (2, .int v2), (3, .int v3)] [.ref r]) : K p l e rX11_stop s m args below meth c 6 w k n (vx_MQ below Qc (XCs w px') args s rX11_stop.cells rX11_stop.slots (wA w)) S 11 [(0, .ref v0), (1, .int v1), (2, .int v2), (3, .int v3)] [] := by
  refine k_aload_n B 0 rfl rfl dX11_stop_11 ?_
  refine k_getP (f := 771) (r := gP S 771 v0) B 12 3 rfl (by decide) rfl (by decide) rfl rfl (fun w h => in_of (uw_12 w h)) (in_of qfRX11_26) dX11_stop_12 h1 rfl ?_
  rw [h2]; change K _ _ _ _ _ _ _ _ _ _ _ _ _ _ _ _ _ _ (.ref x1 :: _)
  refine k_iload_n B 1 rfl rfl dX11_stop_15 ?_
  refine callV_R (st := []) B [.int v1] (hc) (cwV 1 B.1.2.2.2.2 (gV qlRX11_124 qiJx4a65c_get_915e3 qeJx4a65c_get_915e3 qzRJx4a65c qcJx4a65c_get_915e3) rfl rfl rfl (by decide +kernel) ⟨Nat.le_of_ble_eq_true rfl, Nat.le_of_ble_eq_true rfl⟩) rfl rfl (by decide) h5 (Nat.le_of_ble_eq_true rfl) rfl dX11_stop_16 ⟨h3, h4⟩ (fun r S' hp => ?_)
  refine k_sub [0, 2, 3] rfl ?_
  exact kk r S' hp
theorem bX11_stop_19 (B : Bd p s m args meth c cX11_stop 6 (wsOf yX11_stop cX11_stop 6 (some .int)) RX11 w (some .int) "stop") (hl : l.stackTraces = false) (ht : ∀ x ∈ c.exceptionTable.toList, False) {v0 : Nat} {v2 : Int32} {v3 : Int32} {t0 : Nat} {x1 : Nat} {x2 : Nat} {post : Int32 → St → Prop} {k n : Nat} {px' : String → St → Prop} {Qc : Array Value → State → Outcome → State → Prop} (h1 : kd S t0 = 12) (h2 : kd S v0 = 13) (h3 : gP S 773 v0 = some x1) (h4 : gP S 708 t0 = some x2) (hc : ConI l yX7_follow (wsOf yX7_follow cX7_follow 6 (some .int)) rX7_follow w S [.ref x1, .ref t0, .ref x2] post) (h5 : k + 0 ≤ rX11_stop.cells) (h6 : n + 0 ≤ rX11_stop.slots) (h7 : kd S x1 = 9) (kk : ∀ (r : Int32) (S' : St), post r S' → K p l e rX11_stop s m args below meth c 6 w k n (vx_MQ below Qc (XCs w px') args s rX11_stop.cells rX11_stop.slots (wA w)) S' 38 [(0, .ref v0), (2, .int v2), (3, .int v3), (4, .ref t0)] [.int r]) : K p l e rX11_stop s m args below meth c 6 w k n (vx_MQ below Qc (XCs w px') args s rX11_stop.cells rX11_stop.slots (wA w)) S 19 [(0, .ref v0), (2, .int v2), (3, .int v3)] [.ref t0] := by
  refine k_cast B 11 rfl (by decide) (in_of qkRX11_139) dX11_stop_19 h1 ?_
  refine k_astore (lst' := [(4, .ref t0), (0, .ref v0), (2, .int v2), (3, .int v3)]) B (by decide) rfl dX11_stop_22 ?_
  refine k_aload_n B 1 rfl rfl dX11_stop_24 ?_
  refine k_getP (f := 773) (r := gP S 773 v0) B 12 5 rfl (by decide) rfl (by decide) rfl rfl (fun w h => in_of (uw_12 w h)) (in_of qfRX11_37) dX11_stop_25 h2 rfl ?_
  rw [h3]; change K _ _ _ _ _ _ _ _ _ _ _ _ _ _ _ _ _ _ (.ref x1 :: _)
  refine k_aload B 0 rfl dX11_stop_28 ?_
  refine k_aload B 0 rfl dX11_stop_30 ?_
  refine k_getP (f := 708) (r := gP S 708 t0) B 11 4 rfl (by decide) rfl (by decide) rfl rfl (fun w h => in_of (uw_11 w h)) (in_of qfRX11_187) dX11_stop_32 h1 rfl ?_
  rw [h4]; change K _ _ _ _ _ _ _ _ _ _ _ _ _ _ _ _ _ _ (.ref x2 :: _)
  refine callV_I (st := []) B [.ref t0, .ref x2] (hc) (cwV 2 B.1.2.2.2.2 (gV qlRX11_190 qiX7_follow qeX7_follow qzRX7 qcX7_follow) rfl rfl rfl (by decide +kernel) ⟨Nat.le_of_ble_eq_true rfl, Nat.le_of_ble_eq_true rfl⟩) rfl rfl (by decide) h7 (Nat.le_of_ble_eq_true rfl) rfl dX11_stop_35 ⟨h5, h6⟩ (fun r S' hp => ?_)
  refine k_sub [1, 2, 3, 0] rfl ?_
  exact kk r S' hp
theorem bX11_stop_38 (B : Bd p s m args meth c cX11_stop 6 (wsOf yX11_stop cX11_stop 6 (some .int)) RX11 w (some .int) "stop") (hl : l.stackTraces = false) (ht : ∀ x ∈ c.exceptionTable.toList, False) {v0 : Nat} {v2 : Int32} {v3 : Int32} {v4 : Nat} {t0 : Int32} {x1 : Nat} {x2 : Nat} {k n : Nat} {px' : String → St → Prop} {Qc : Array Value → State → Outcome → State → Prop} (h1 : kd S v0 = 13) (h2 : gP S 773 v0 = some x1) (h3 : kd S x1 = 9) (h4 : gP S 514 x1 = some x2) (h5 : kd S x2 = 21) (h6 : vp_in v2 (ln S x2)) (kd : v3.toInt < 0 ∨ 2 < v3.toInt → K p l e rX11_stop s m args below meth c 6 w k n (vx_MQ below Qc (XCs w px') args s rX11_stop.cells rX11_stop.slots (wA w)) S 99 [(2, .int v2), (4, .ref v4), (5, .int ((rI S x2) v2.toNatClampNeg))] []) (k0 : v3 = 0 → K p l e rX11_stop s m args below meth c 6 w k n (vx_MQ below Qc (XCs w px') args s rX11_stop.cells rX11_stop.slots (wA w)) S 76 [(5, .int ((rI S x2) v2.toNatClampNeg))] []) (k1 : v3 = 1 → K p l e rX11_stop s m args below meth c 6 w k n (vx_MQ below Qc (XCs w px') args s rX11_stop.cells rX11_stop.slots (wA w)) S 79 [(0, .ref v0), (2, .int v2)] []) (k2 : v3 = 2 → K p l e rX11_stop s m args below meth c 6 w k n (vx_MQ below Qc (XCs w px') args s rX11_stop.cells rX11_stop.slots (wA w)) S 89 [(0, .ref v0), (2, .int v2)] []) : K p l e rX11_stop s m args below meth c 6 w k n (vx_MQ below Qc (XCs w px') args s rX11_stop.cells rX11_stop.slots (wA w)) S 38 [(0, .ref v0), (2, .int v2), (3, .int v3), (4, .ref v4)] [.int t0] := by
  refine k_pop B rfl dX11_stop_38 ?_
  refine k_aload_n B 0 rfl rfl dX11_stop_39 ?_
  refine k_getP (f := 773) (r := gP S 773 v0) B 12 5 rfl (by decide) rfl (by decide) rfl rfl (fun w h => in_of (uw_12 w h)) (in_of qfRX11_37) dX11_stop_40 h1 rfl ?_
  rw [h2]; change K _ _ _ _ _ _ _ _ _ _ _ _ _ _ _ _ _ _ (.ref x1 :: _)
  refine k_getP (f := 514) (r := gP S 514 x1) B 8 2 rfl (by decide) rfl (by decide) rfl rfl (fun w h => in_of (uw_8 w h)) (in_of qfRX11_212) dX11_stop_43 h3 rfl ?_
  rw [h4]; change K _ _ _ _ _ _ _ _ _ _ _ _ _ _ _ _ _ _ (.ref x2 :: _)
  refine k_iload_n B 1 rfl rfl dX11_stop_46 ?_
  refine k_iald (v := (rI S x2) v2.toNatClampNeg) B dX11_stop_47 h5 h6 rfl ?_
  refine k_istore (lst' := [(5, .int ((rI S x2) v2.toNatClampNeg)), (0, .ref v0), (2, .int v2), (3, .int v3), (4, .ref v4)]) B (by decide) rfl dX11_stop_48 ?_
  refine k_iload_n B 3 rfl rfl dX11_stop_50 ?_
  rcases (show v3.toInt < 0 ∨ 2 < v3.toInt ∨ v3.toInt = 0 ∨ v3.toInt = 1 ∨ v3.toInt = 2 by omega) with c | c | c | c | c
  · refine k_tabOut (tgt := 99) B dX11_stop_51 (Or.inl c) (by decide) ?_
    refine k_sub [2, 4, 0] rfl ?_
    exact kd (Or.inl c)
  · refine k_tabOut (tgt := 99) B dX11_stop_51 (Or.inr c) (by decide) ?_
    refine k_sub [2, 4, 0] rfl ?_
    exact kd (Or.inr c)
  · refine k_tabIn (off := 25) (tgt := 76) B dX11_stop_51 (by omega) (by omega) (by rw [c]; rfl) (by decide) ?_
    refine k_sub [0] rfl ?_
    exact k0 (Int32.toInt_inj.mp (c.trans (by decide)))
  · refine k_tabIn (off := 28) (tgt := 79) B dX11_stop_51 (by omega) (by omega) (by rw [c]; rfl) (by decide) ?_
    refine k_sub [1, 2] rfl ?_
    exact k1 (Int32.toInt_inj.mp (c.trans (by decide)))
  · refine k_tabIn (off := 38) (tgt := 89) B dX11_stop_51 (by omega) (by omega) (by rw [c]; rfl) (by decide) ?_
    refine k_sub [1, 2] rfl ?_
    exact k2 (Int32.toInt_inj.mp (c.trans (by decide)))
theorem bX11_stop_76 (B : Bd p s m args meth c cX11_stop 6 (wsOf yX11_stop cX11_stop 6 (some .int)) RX11 w (some .int) "stop") (hl : l.stackTraces = false) (ht : ∀ x ∈ c.exceptionTable.toList, False) {v5 : Int32} {post : Int32 → St → Prop} {k n : Nat} {px' : String → St → Prop} (h1 : k ≤ rX11_stop.cells) (h2 : n ≤ rX11_stop.slots) (hq : post v5 S) : K p l e rX11_stop s m args below meth c 6 w k n (vx_MQ below (va_Qi post (fun S' t => Hd w S' t.heap) (wA w)) (XCs w px') args s rX11_stop.cells rX11_stop.slots (wA w)) S 76 [(5, .int v5)] [] := by
  refine k_iload B 0 rfl dX11_stop_76 ?_
  exact k_xret_I h1 h2 (ret_I B rfl dX11_stop_78 (hq))
theorem bX11_stop_79 (B : Bd p s m args meth c cX11_stop 6 (wsOf yX11_stop cX11_stop 6 (some .int)) RX11 w (some .int) "stop") (hl : l.stackTraces = false) (ht : ∀ x ∈ c.exceptionTable.toList, False) {v0 : Nat} {v2 : Int32} {x1 : Nat} {x2 : Nat} {post : Int32 → St → Prop} {k n : Nat} {px' : String → St → Prop} (h1 : kd S v0 = 13) (h2 : gP S 773 v0 = some x1) (h3 : kd S x1 = 9) (h4 : gP S 515 x1 = some x2) (h5 : kd S x2 = 21) (h6 : vp_in v2 (ln S x2)) (h7 : k ≤ rX11_stop.cells) (h8 : n ≤ rX11_stop.slots) (hq : post ((rI S x2) v2.toNatClampNeg) S) : K p l e rX11_stop s m args below meth c 6 w k n (vx_MQ below (va_Qi post (fun S' t => Hd w S' t.heap) (wA w)) (XCs w px') args s rX11_stop.cells rX11_stop.slots (wA w)) S 79 [(0, .ref v0), (2, .int v2)] [] := by
  refine k_aload_n B 0 rfl rfl dX11_stop_79 ?_
  refine k_getP (f := 773) (r := gP S 773 v0) B 12 5 rfl (by decide) rfl (by decide) rfl rfl (fun w h => in_of (uw_12 w h)) (in_of qfRX11_37) dX11_stop_80 h1 rfl ?_
  rw [h2]; change K _ _ _ _ _ _ _ _ _ _ _ _ _ _ _ _ _ _ (.ref x1 :: _)
  refine k_getP (f := 515) (r := gP S 515 x1) B 8 3 rfl (by decide) rfl (by decide) rfl rfl (fun w h => in_of (uw_8 w h)) (in_of qfRX11_215) dX11_stop_83 h3 rfl ?_
  rw [h4]; change K _ _ _ _ _ _ _ _ _ _ _ _ _ _ _ _ _ _ (.ref x2 :: _)
  refine k_iload_n B 1 rfl rfl dX11_stop_86 ?_
  refine k_iald (v := (rI S x2) v2.toNatClampNeg) B dX11_stop_87 h5 h6 rfl ?_
  exact k_xret_I h7 h8 (ret_I B rfl dX11_stop_88 (hq))
theorem bX11_stop_89 (B : Bd p s m args meth c cX11_stop 6 (wsOf yX11_stop cX11_stop 6 (some .int)) RX11 w (some .int) "stop") (hl : l.stackTraces = false) (ht : ∀ x ∈ c.exceptionTable.toList, False) {v0 : Nat} {v2 : Int32} {x1 : Nat} {x2 : Nat} {post : Int32 → St → Prop} {k n : Nat} {px' : String → St → Prop} (h1 : kd S v0 = 13) (h2 : gP S 773 v0 = some x1) (h3 : kd S x1 = 9) (h4 : gP S 516 x1 = some x2) (h5 : kd S x2 = 21) (h6 : vp_in v2 (ln S x2)) (h7 : k ≤ rX11_stop.cells) (h8 : n ≤ rX11_stop.slots) (hq : post ((rI S x2) v2.toNatClampNeg) S) : K p l e rX11_stop s m args below meth c 6 w k n (vx_MQ below (va_Qi post (fun S' t => Hd w S' t.heap) (wA w)) (XCs w px') args s rX11_stop.cells rX11_stop.slots (wA w)) S 89 [(0, .ref v0), (2, .int v2)] [] := by
  refine k_aload_n B 0 rfl rfl dX11_stop_89 ?_
  refine k_getP (f := 773) (r := gP S 773 v0) B 12 5 rfl (by decide) rfl (by decide) rfl rfl (fun w h => in_of (uw_12 w h)) (in_of qfRX11_37) dX11_stop_90 h1 rfl ?_
  rw [h2]; change K _ _ _ _ _ _ _ _ _ _ _ _ _ _ _ _ _ _ (.ref x1 :: _)
  refine k_getP (f := 516) (r := gP S 516 x1) B 8 4 rfl (by decide) rfl (by decide) rfl rfl (fun w h => in_of (uw_8 w h)) (in_of qfRX11_218) dX11_stop_93 h3 rfl ?_
  rw [h4]; change K _ _ _ _ _ _ _ _ _ _ _ _ _ _ _ _ _ _ (.ref x2 :: _)
  refine k_iload_n B 1 rfl rfl dX11_stop_96 ?_
  refine k_iald (v := (rI S x2) v2.toNatClampNeg) B dX11_stop_97 h5 h6 rfl ?_
  exact k_xret_I h7 h8 (ret_I B rfl dX11_stop_98 (hq))
theorem bX11_stop_99 (B : Bd p s m args meth c cX11_stop 6 (wsOf yX11_stop cX11_stop 6 (some .int)) RX11 w (some .int) "stop") (hl : l.stackTraces = false) (ht : ∀ x ∈ c.exceptionTable.toList, False) {v2 : Int32} {v4 : Nat} {v5 : Int32} {x1 : Nat} {post : Nat → St → Prop} {k n : Nat} {px' : String → St → Prop} {Qc : Array Value → State → Outcome → State → Prop} (h1 : kd S v4 = 12) (h2 : gP S 708 v4 = some x1) (hc : ConR l yX6_at (wsOf yX6_at cX6_at 2 (some (.object "LastMile$Parcel"))) rX6_at w S [.ref x1, .int v2] post) (h3 : k + 0 ≤ rX11_stop.cells) (h4 : n + 0 ≤ rX11_stop.slots) (h5 : kd S x1 = 8) (kk : ∀ (r : Nat) (S' : St), post r S' → K p l e rX11_stop s m args below meth c 6 w k n (vx_MQ below Qc (XCs w px') args s rX11_stop.cells rX11_stop.slots (wA w)) S' 108 [(5, .int v5)] [.ref r]) : K p l e rX11_stop s m args below meth c 6 w k n (vx_MQ below Qc (XCs w px') args s rX11_stop.cells rX11_stop.slots (wA w)) S 99 [(2, .int v2), (4, .ref v4), (5, .int v5)] [] := by
  refine k_aload B 1 rfl dX11_stop_99 ?_
  refine k_getP (f := 708) (r := gP S 708 v4) B 11 4 rfl (by decide) rfl (by decide) rfl rfl (fun w h => in_of (uw_11 w h)) (in_of qfRX11_187) dX11_stop_101 h1 rfl ?_
  rw [h2]; change K _ _ _ _ _ _ _ _ _ _ _ _ _ _ _ _ _ _ (.ref x1 :: _)
  refine k_iload_n B 0 rfl rfl dX11_stop_104 ?_
  refine callV_R (st := []) B [.int v2] (hc) (cwV 1 B.1.2.2.2.2 (gV qlRX11_201 qiX6_at qeX6_at qzRX6 qcX6_at) rfl rfl rfl (by decide +kernel) ⟨Nat.le_of_ble_eq_true rfl, Nat.le_of_ble_eq_true rfl⟩) rfl rfl (by decide) h5 (Nat.le_of_ble_eq_true rfl) rfl dX11_stop_105 ⟨h3, h4⟩ (fun r S' hp => ?_)
  refine k_sub [2] rfl ?_
  exact kk r S' hp
theorem bX11_stop_108 (B : Bd p s m args meth c cX11_stop 6 (wsOf yX11_stop cX11_stop 6 (some .int)) RX11 w (some .int) "stop") (hl : l.stackTraces = false) (ht : ∀ x ∈ c.exceptionTable.toList, False) {v5 : Int32} {t0 : Nat} {x1 : Nat} {post : Int32 → St → Prop} {k n : Nat} {px' : String → St → Prop} {Qc : Array Value → State → Outcome → State → Prop} (h1 : kd S t0 = 5) (h2 : gP S 260 t0 = some x1) (hc : ConI l yX1_isSomebodyIn (wsOf yX1_isSomebodyIn cX1_isSomebodyIn 2 (some .boolean)) rX1_isSomebodyIn w S [.ref x1, .int v5] post) (h3 : k + 0 ≤ rX11_stop.cells) (h4 : n + 0 ≤ rX11_stop.slots) (h5 : kd S x1 = 3) (kk : ∀ (r : Int32) (S' : St), post r S' → K p l e rX11_stop s m args below meth c 6 w k n (vx_MQ below Qc (XCs w px') args s rX11_stop.cells rX11_stop.slots (wA w)) S' 116 [] [.int r]) : K p l e rX11_stop s m args below meth c 6 w k n (vx_MQ below Qc (XCs w px') args s rX11_stop.cells rX11_stop.slots (wA w)) S 108 [(5, .int v5)] [.ref t0] := by
  refine k_getP (f := 260) (r := gP S 260 t0) B 4 4 rfl (by decide) rfl (by decide) rfl rfl (fun w h => in_of (uw_4 w h)) (in_of qfRX11_221) dX11_stop_108 h1 rfl ?_
  rw [h2]; change K _ _ _ _ _ _ _ _ _ _ _ _ _ _ _ _ _ _ (.ref x1 :: _)
  refine k_iload B 0 rfl dX11_stop_111 ?_
  refine callV_I (st := []) B [.int v5] (hc) (cwV 1 B.1.2.2.2.2 (gV qlRX11_225 qiX1_isSomebodyIn qeX1_isSomebodyIn qzRX1 qcX1_isSomebodyIn) rfl rfl rfl (by decide +kernel) ⟨Nat.le_of_ble_eq_true rfl, Nat.le_of_ble_eq_true rfl⟩) rfl rfl (by decide) h5 (Nat.le_of_ble_eq_true rfl) rfl dX11_stop_113 ⟨h3, h4⟩ (fun r S' hp => ?_)
  refine k_sub [] rfl ?_
  exact kk r S' hp
theorem bX11_stop_116 (B : Bd p s m args meth c cX11_stop 6 (wsOf yX11_stop cX11_stop 6 (some .int)) RX11 w (some .int) "stop") (hl : l.stackTraces = false) (ht : ∀ x ∈ c.exceptionTable.toList, False) {t0 : Int32} {k n : Nat} {px' : String → St → Prop} {Qc : Array Value → State → Outcome → State → Prop}  (kt : t0 = 0 → K p l e rX11_stop s m args below meth c 6 w k n (vx_MQ below Qc (XCs w px') args s rX11_stop.cells rX11_stop.slots (wA w)) S 123 [] []) (kf : ¬ t0 = 0 → K p l e rX11_stop s m args below meth c 6 w k n (vx_MQ below Qc (XCs w px') args s rX11_stop.cells rX11_stop.slots (wA w)) S 119 [] []) : K p l e rX11_stop s m args below meth c 6 w k n (vx_MQ below Qc (XCs w px') args s rX11_stop.cells rX11_stop.slots (wA w)) S 116 [] [.int t0] := by
  refine k_if_eq (tgt := 123) B dX11_stop_116 (by decide) (fun c => ?_) (fun c => ?_)
  · exact kt c
  · exact kf c
theorem bX11_stop_119 (B : Bd p s m args meth c cX11_stop 6 (wsOf yX11_stop cX11_stop 6 (some .int)) RX11 w (some .int) "stop") (hl : l.stackTraces = false) (ht : ∀ x ∈ c.exceptionTable.toList, False) {k n : Nat} {px' : String → St → Prop} {Qc : Array Value → State → Outcome → State → Prop}  (kk : K p l e rX11_stop s m args below meth c 6 w k n (vx_MQ below Qc (XCs w px') args s rX11_stop.cells rX11_stop.slots (wA w)) S 124 [] [.int 1]) : K p l e rX11_stop s m args below meth c 6 w k n (vx_MQ below Qc (XCs w px') args s rX11_stop.cells rX11_stop.slots (wA w)) S 119 [] [] := by
  refine k_iconst (v := 1) B (by decide) dX11_stop_119 ?_
  refine k_goto (tgt := 124) B dX11_stop_120 (by decide) ?_
  exact kk
theorem bX11_stop_123 (B : Bd p s m args meth c cX11_stop 6 (wsOf yX11_stop cX11_stop 6 (some .int)) RX11 w (some .int) "stop") (hl : l.stackTraces = false) (ht : ∀ x ∈ c.exceptionTable.toList, False) {k n : Nat} {px' : String → St → Prop} {Qc : Array Value → State → Outcome → State → Prop}  (kk : K p l e rX11_stop s m args below meth c 6 w k n (vx_MQ below Qc (XCs w px') args s rX11_stop.cells rX11_stop.slots (wA w)) S 124 [] [.int 0]) : K p l e rX11_stop s m args below meth c 6 w k n (vx_MQ below Qc (XCs w px') args s rX11_stop.cells rX11_stop.slots (wA w)) S 123 [] [] := by
  refine k_iconst (v := 0) B (by decide) dX11_stop_123 ?_
  exact kk
theorem bX11_stop_124 (B : Bd p s m args meth c cX11_stop 6 (wsOf yX11_stop cX11_stop 6 (some .int)) RX11 w (some .int) "stop") (hl : l.stackTraces = false) (ht : ∀ x ∈ c.exceptionTable.toList, False) {t0 : Int32} {post : Int32 → St → Prop} {k n : Nat} {px' : String → St → Prop} (h1 : k ≤ rX11_stop.cells) (h2 : n ≤ rX11_stop.slots) (hq : post t0 S) : K p l e rX11_stop s m args below meth c 6 w k n (vx_MQ below (va_Qi post (fun S' t => Hd w S' t.heap) (wA w)) (XCs w px') args s rX11_stop.cells rX11_stop.slots (wA w)) S 124 [] [.int t0] := by
  exact k_xret_I h1 h2 (ret_I B rfl dX11_stop_124 (hq))
theorem bX11_adds_0 (B : Bd p s m args meth c cX11_adds 4 (wsOf yX11_adds cX11_adds 4 (some .int)) RX11 w (some .int) "adds") (hl : l.stackTraces = false) (ht : ∀ x ∈ c.exceptionTable.toList, False) {v0 : Nat} {v1 : Int32} {v2 : Int32} {v3 : Int32} {px : String → St → Prop} {post : St → Prop} {k n : Nat} {px' : String → St → Prop} {Qc : Array Value → State → Outcome → State → Prop} (hc : ConXV l yX11_needSpot (wsOf yX11_needSpot cX11_needSpot 4 none) rX11_needSpot w S [.ref v0, .int v1, .int v2, .int v3] post px) (h1 : k + 3 ≤ rX11_adds.cells) (h2 : n + 18 ≤ rX11_adds.slots) (h3 : kd S v0 = 13) (kx : ∀ (E : String) (S' : St), px E S' → px' E S') (kk : ∀ (S' : St), post S' → K p l e rX11_adds s m args below meth c 4 w (k + 3) (n + 18) (vx_MQ below Qc (XCs w px') args s rX11_adds.cells rX11_adds.slots (wA w)) S' 7 [(0, .ref v0), (1, .int v1), (2, .int v2), (3, .int v3)] []) : K p l e rX11_adds s m args below meth c 4 w k n (vx_MQ below Qc (XCs w px') args s rX11_adds.cells rX11_adds.slots (wA w)) S 0 [(0, .ref v0), (1, .int v1), (2, .int v2), (3, .int v3)] [] := by
  refine k_aload_n B 0 rfl rfl dX11_adds_0 ?_
  refine k_iload_n B 1 rfl rfl dX11_adds_1 ?_
  refine k_iload_n B 2 rfl rfl dX11_adds_2 ?_
  refine k_iload_n B 3 rfl rfl dX11_adds_3 ?_
  refine tcallV_V (st := []) B ht [.int v1, .int v2, .int v3] (hc) (cwV 3 B.1.2.2.2.2 (gV qlRX11_160 qiX11_needSpot qeX11_needSpot qzRX11 qcX11_needSpot) rfl rfl rfl (by decide +kernel) ⟨Nat.le_of_ble_eq_true rfl, Nat.le_of_ble_eq_true rfl⟩) rfl rfl (by decide) h3 (Nat.le_of_ble_eq_true rfl) rfl dX11_adds_4 ⟨h1, h2⟩ ⟨h1, h2⟩ (kx) (fun S' hp => ?_)
  exact kk S' hp
theorem bX11_adds_7 (B : Bd p s m args meth c cX11_adds 4 (wsOf yX11_adds cX11_adds 4 (some .int)) RX11 w (some .int) "adds") (hl : l.stackTraces = false) (ht : ∀ x ∈ c.exceptionTable.toList, False) {v0 : Nat} {v1 : Int32} {v2 : Int32} {v3 : Int32} {x1 : Nat} {post : Nat → St → Prop} {k n : Nat} {px' : String → St → Prop} {Qc : Array Value → State → Outcome → State → Prop} (h1 : kd S v0 = 13) (h2 : gP S 772 v0 = some x1) (hc : ConR l yJx4a65c_get_915e3 (wsOf yJx4a65c_get_915e3 cJx4a65c_get_915e3 2 (some (.object "java/lang/Object"))) rJx4a65c_get_915e3 w S [.ref x1, .int v1] post) (h3 : k + 0 ≤ rX11_adds.cells) (h4 : n + 0 ≤ rX11_adds.slots) (h5 : kd S x1 = 1) (kk : ∀ (r : Nat) (S' : St), post r S' → K p l e rX11_adds s m args below meth c 4 w k n (vx_MQ below Qc (XCs w px') args s rX11_adds.cells rX11_adds.slots (wA w)) S' 16 [(0, .ref v0), (2, .int v2), (3, .int v3)] [.ref r, .ref v0]) : K p l e rX11_adds s m args below meth c 4 w k n (vx_MQ below Qc (XCs w px') args s rX11_adds.cells rX11_adds.slots (wA w)) S 7 [(0, .ref v0), (1, .int v1), (2, .int v2), (3, .int v3)] [] := by
  refine k_aload_n B 0 rfl rfl dX11_adds_7 ?_
  refine k_aload_n B 0 rfl rfl dX11_adds_8 ?_
  refine k_getP (f := 772) (r := gP S 772 v0) B 12 4 rfl (by decide) rfl (by decide) rfl rfl (fun w h => in_of (uw_12 w h)) (in_of qfRX11_29) dX11_adds_9 h1 rfl ?_
  rw [h2]; change K _ _ _ _ _ _ _ _ _ _ _ _ _ _ _ _ _ _ (.ref x1 :: _)
  refine k_iload_n B 1 rfl rfl dX11_adds_12 ?_
  refine callV_R (st := [.ref v0]) B [.int v1] (hc) (cwV 1 B.1.2.2.2.2 (gV qlRX11_124 qiJx4a65c_get_915e3 qeJx4a65c_get_915e3 qzRJx4a65c qcJx4a65c_get_915e3) rfl rfl rfl (by decide +kernel) ⟨Nat.le_of_ble_eq_true rfl, Nat.le_of_ble_eq_true rfl⟩) rfl rfl (by decide) h5 (Nat.le_of_ble_eq_true rfl) rfl dX11_adds_13 ⟨h3, h4⟩ (fun r S' hp => ?_)
  refine k_sub [0, 2, 3] rfl ?_
  exact kk r S' hp
theorem bX11_adds_16 (B : Bd p s m args meth c cX11_adds 4 (wsOf yX11_adds cX11_adds 4 (some .int)) RX11 w (some .int) "adds") (hl : l.stackTraces = false) (ht : ∀ x ∈ c.exceptionTable.toList, False) {v0 : Nat} {v2 : Int32} {v3 : Int32} {t0 : Nat} {t1 : Nat} {x1 : Nat} {post : Nat → St → Prop} {k n : Nat} {px' : String → St → Prop} {Qc : Array Value → State → Outcome → State → Prop} (h1 : kd S t1 = 5) (h2 : kd S v0 = 13) (h3 : gP S 771 v0 = some x1) (hc : ConR l yJx4a65c_get_915e3 (wsOf yJx4a65c_get_915e3 cJx4a65c_get_915e3 2 (some (.object "java/lang/Object"))) rJx4a65c_get_915e3 w S [.ref x1, .int v2] post) (h4 : k + 0 ≤ rX11_adds.cells) (h5 : n + 0 ≤ rX11_adds.slots) (h6 : kd S x1 = 1) (kk : ∀ (r : Nat) (S' : St), post r S' → K p l e rX11_adds s m args below meth c 4 w k n (vx_MQ below Qc (XCs w px') args s rX11_adds.cells rX11_adds.slots (wA w)) S' 27 [(3, .int v3)] [.ref r, .ref t1, .ref t0]) : K p l e rX11_adds s m args below meth c 4 w k n (vx_MQ below Qc (XCs w px') args s rX11_adds.cells rX11_adds.slots (wA w)) S 16 [(0, .ref v0), (2, .int v2), (3, .int v3)] [.ref t1, .ref t0] := by
  refine k_cast B 4 rfl (by decide) (in_of qkRX11_144) dX11_adds_16 h1 ?_
  refine k_aload_n B 0 rfl rfl dX11_adds_19 ?_
  refine k_getP (f := 771) (r := gP S 771 v0) B 12 3 rfl (by decide) rfl (by decide) rfl rfl (fun w h => in_of (uw_12 w h)) (in_of qfRX11_26) dX11_adds_20 h2 rfl ?_
  rw [h3]; change K _ _ _ _ _ _ _ _ _ _ _ _ _ _ _ _ _ _ (.ref x1 :: _)
  refine k_iload_n B 1 rfl rfl dX11_adds_23 ?_
  refine callV_R (st := [.ref t1, .ref t0]) B [.int v2] (hc) (cwV 1 B.1.2.2.2.2 (gV qlRX11_124 qiJx4a65c_get_915e3 qeJx4a65c_get_915e3 qzRJx4a65c qcJx4a65c_get_915e3) rfl rfl rfl (by decide +kernel) ⟨Nat.le_of_ble_eq_true rfl, Nat.le_of_ble_eq_true rfl⟩) rfl rfl (by decide) h6 (Nat.le_of_ble_eq_true rfl) rfl dX11_adds_24 ⟨h4, h5⟩ (fun r S' hp => ?_)
  refine k_sub [2] rfl ?_
  exact kk r S' hp
theorem bX11_adds_27 (B : Bd p s m args meth c cX11_adds 4 (wsOf yX11_adds cX11_adds 4 (some .int)) RX11 w (some .int) "adds") (hl : l.stackTraces = false) (ht : ∀ x ∈ c.exceptionTable.toList, False) {v3 : Int32} {t0 : Nat} {t1 : Nat} {t2 : Nat} {post : Int32 → St → Prop} {k n : Nat} {px' : String → St → Prop} {Qc : Array Value → State → Outcome → State → Prop} (h1 : kd S t2 = 12) (hc : ConI l yX11_addedCost (wsOf yX11_addedCost cX11_addedCost 4 (some .int)) rX11_addedCost w S [.ref t0, .ref t1, .ref t2, .int v3] post) (h2 : k + 0 ≤ rX11_adds.cells) (h3 : n + 0 ≤ rX11_adds.slots) (h4 : kd S t0 = 13) (kk : ∀ (r : Int32) (S' : St), post r S' → K p l e rX11_adds s m args below meth c 4 w k n (vx_MQ below Qc (XCs w px') args s rX11_adds.cells rX11_adds.slots (wA w)) S' 34 [] [.int r]) : K p l e rX11_adds s m args below meth c 4 w k n (vx_MQ below Qc (XCs w px') args s rX11_adds.cells rX11_adds.slots (wA w)) S 27 [(3, .int v3)] [.ref t2, .ref t1, .ref t0] := by
  refine k_cast B 11 rfl (by decide) (in_of qkRX11_139) dX11_adds_27 h1 ?_
  refine k_iload_n B 0 rfl rfl dX11_adds_30 ?_
  refine callV_I (st := []) B [.ref t1, .ref t2, .int v3] (hc) (cwV 3 B.1.2.2.2.2 (gV qlRX11_167 qiX11_addedCost qeX11_addedCost qzRX11 qcX11_addedCost) rfl rfl rfl (by decide +kernel) ⟨Nat.le_of_ble_eq_true rfl, Nat.le_of_ble_eq_true rfl⟩) rfl rfl (by decide) h4 (Nat.le_of_ble_eq_true rfl) rfl dX11_adds_31 ⟨h2, h3⟩ (fun r S' hp => ?_)
  refine k_sub [] rfl ?_
  exact kk r S' hp
theorem bX11_adds_34 (B : Bd p s m args meth c cX11_adds 4 (wsOf yX11_adds cX11_adds 4 (some .int)) RX11 w (some .int) "adds") (hl : l.stackTraces = false) (ht : ∀ x ∈ c.exceptionTable.toList, False) {t0 : Int32} {post : Int32 → St → Prop} {k n : Nat} {px' : String → St → Prop} (h1 : k ≤ rX11_adds.cells) (h2 : n ≤ rX11_adds.slots) (hq : post t0 S) : K p l e rX11_adds s m args below meth c 4 w k n (vx_MQ below (va_Qi post (fun S' t => Hd w S' t.heap) (wA w)) (XCs w px') args s rX11_adds.cells rX11_adds.slots (wA w)) S 34 [] [.int t0] := by
  exact k_xret_I h1 h2 (ret_I B rfl dX11_adds_34 (hq))
theorem bX11_cheapest_0 (B : Bd p s m args meth c cX11_cheapest 3 (wsOf yX11_cheapest cX11_cheapest 3 (some .int)) RX11 w (some .int) "cheapest") (hl : l.stackTraces = false) (ht : ∀ x ∈ c.exceptionTable.toList, False) {v0 : Nat} {v1 : Int32} {x1 : Nat} {post : Int32 → St → Prop} {k n : Nat} {px' : String → St → Prop} {Qc : Array Value → State → Outcome → State → Prop} (h1 : kd S v0 = 13) (h2 : gP S 772 v0 = some x1) (hc : ConI l yJx4a65c_size_8abf5 (wsOf yJx4a65c_size_8abf5 cJx4a65c_size_8abf5 1 (some .int)) rJx4a65c_size_8abf5 w S [.ref x1] post) (h3 : k + 0 ≤ rX11_cheapest.cells) (h4 : n + 0 ≤ rX11_cheapest.slots) (h5 : kd S x1 = 1) (kk : ∀ (r : Int32) (S' : St), post r S' → K p l e rX11_cheapest s m args below meth c 3 w k n (vx_MQ below Qc (XCs w px') args s rX11_cheapest.cells rX11_cheapest.slots (wA w)) S' 8 [(0, .ref v0), (1, .int v1)] [.int r, .int v1]) : K p l e rX11_cheapest s m args below meth c 3 w k n (vx_MQ below Qc (XCs w px') args s rX11_cheapest.cells rX11_cheapest.slots (wA w)) S 0 [(0, .ref v0), (1, .int v1)] [] := by
  refine k_iload_n B 1 rfl rfl dX11_cheapest_0 ?_
  refine k_aload_n B 0 rfl rfl dX11_cheapest_1 ?_
  refine k_getP (f := 772) (r := gP S 772 v0) B 12 4 rfl (by decide) rfl (by decide) rfl rfl (fun w h => in_of (uw_12 w h)) (in_of qfRX11_29) dX11_cheapest_2 h1 rfl ?_
  rw [h2]; change K _ _ _ _ _ _ _ _ _ _ _ _ _ _ _ _ _ _ (.ref x1 :: _)
  refine callV_I (st := [.int v1]) B [] (hc) (cwV 0 B.1.2.2.2.2 (gV qlRX11_101 qiJx4a65c_size_8abf5 qeJx4a65c_size_8abf5 qzRJx4a65c qcJx4a65c_size_8abf5) rfl rfl rfl (by decide +kernel) ⟨Nat.le_of_ble_eq_true rfl, Nat.le_of_ble_eq_true rfl⟩) rfl rfl (by decide) h5 (Nat.le_of_ble_eq_true rfl) rfl dX11_cheapest_5 ⟨h3, h4⟩ (fun r S' hp => ?_)
  exact kk r S' hp
theorem bX11_cheapest_8 (B : Bd p s m args meth c cX11_cheapest 3 (wsOf yX11_cheapest cX11_cheapest 3 (some .int)) RX11 w (some .int) "cheapest") (hl : l.stackTraces = false) (ht : ∀ x ∈ c.exceptionTable.toList, False) {v0 : Nat} {v1 : Int32} {t0 : Int32} {t1 : Int32} {px : String → St → Prop} {post : St → Prop} {k n : Nat} {px' : String → St → Prop} {Qc : Array Value → State → Outcome → State → Prop} (hc : ConXV l yX11_needIndex (wsOf yX11_needIndex cX11_needIndex 2 none) rX11_needIndex w S [.int t0, .int t1] post px) (h1 : k + 1 ≤ rX11_cheapest.cells) (h2 : n + 6 ≤ rX11_cheapest.slots) (kx : ∀ (E : String) (S' : St), px E S' → px' E S') (kk : ∀ (S' : St), post S' → K p l e rX11_cheapest s m args below meth c 3 w (k + 1) (n + 6) (vx_MQ below Qc (XCs w px') args s rX11_cheapest.cells rX11_cheapest.slots (wA w)) S' 11 [(0, .ref v0), (1, .int v1)] []) : K p l e rX11_cheapest s m args below meth c 3 w k n (vx_MQ below Qc (XCs w px') args s rX11_cheapest.cells rX11_cheapest.slots (wA w)) S 8 [(0, .ref v0), (1, .int v1)] [.int t1, .int t0] := by
  refine tcallS_V (st := []) B ht [.int t0, .int t1] (hc) (va_cwS 2 B.1.2.2.2.2 (gS qlRX11_71 qsX11_needIndex qzRX11 qcX11_needIndex) rfl rfl rfl (by decide +kernel) ⟨Nat.le_of_ble_eq_true rfl, Nat.le_of_ble_eq_true rfl⟩) rfl (Nat.le_of_ble_eq_true rfl) rfl dX11_cheapest_8 ⟨h1, h2⟩ ⟨h1, h2⟩ (kx) (fun S' hp => ?_)
  exact kk S' hp
theorem bX11_cheapest_11 (B : Bd p s m args meth c cX11_cheapest 3 (wsOf yX11_cheapest cX11_cheapest 3 (some .int)) RX11 w (some .int) "cheapest") (hl : l.stackTraces = false) (ht : ∀ x ∈ c.exceptionTable.toList, False) {v0 : Nat} {v1 : Int32} {x1 : Nat} {post : Nat → St → Prop} {k n : Nat} {px' : String → St → Prop} {Qc : Array Value → State → Outcome → State → Prop} (h1 : kd S v0 = 13) (h2 : gP S 772 v0 = some x1) (hc : ConR l yJx4a65c_get_915e3 (wsOf yJx4a65c_get_915e3 cJx4a65c_get_915e3 2 (some (.object "java/lang/Object"))) rJx4a65c_get_915e3 w S [.ref x1, .int v1] post) (h3 : k + 0 ≤ rX11_cheapest.cells) (h4 : n + 0 ≤ rX11_cheapest.slots) (h5 : kd S x1 = 1) (kk : ∀ (r : Nat) (S' : St), post r S' → K p l e rX11_cheapest s m args below meth c 3 w k n (vx_MQ below Qc (XCs w px') args s rX11_cheapest.cells rX11_cheapest.slots (wA w)) S' 19 [(0, .ref v0)] [.ref r]) : K p l e rX11_cheapest s m args below meth c 3 w k n (vx_MQ below Qc (XCs w px') args s rX11_cheapest.cells rX11_cheapest.slots (wA w)) S 11 [(0, .ref v0), (1, .int v1)] [] := by
  refine k_aload_n B 0 rfl rfl dX11_cheapest_11 ?_
  refine k_getP (f := 772) (r := gP S 772 v0) B 12 4 rfl (by decide) rfl (by decide) rfl rfl (fun w h => in_of (uw_12 w h)) (in_of qfRX11_29) dX11_cheapest_12 h1 rfl ?_
  rw [h2]; change K _ _ _ _ _ _ _ _ _ _ _ _ _ _ _ _ _ _ (.ref x1 :: _)
  refine k_iload_n B 1 rfl rfl dX11_cheapest_15 ?_
  refine callV_R (st := []) B [.int v1] (hc) (cwV 1 B.1.2.2.2.2 (gV qlRX11_124 qiJx4a65c_get_915e3 qeJx4a65c_get_915e3 qzRJx4a65c qcJx4a65c_get_915e3) rfl rfl rfl (by decide +kernel) ⟨Nat.le_of_ble_eq_true rfl, Nat.le_of_ble_eq_true rfl⟩) rfl rfl (by decide) h5 (Nat.le_of_ble_eq_true rfl) rfl dX11_cheapest_16 ⟨h3, h4⟩ (fun r S' hp => ?_)
  refine k_sub [0] rfl ?_
  exact kk r S' hp
theorem bX11_cheapest_19 (B : Bd p s m args meth c cX11_cheapest 3 (wsOf yX11_cheapest cX11_cheapest 3 (some .int)) RX11 w (some .int) "cheapest") (hl : l.stackTraces = false) (ht : ∀ x ∈ c.exceptionTable.toList, False) {v0 : Nat} {t0 : Nat} {x1 : Nat} {post : St → Prop} {k n : Nat} {px' : String → St → Prop} {Qc : Array Value → State → Outcome → State → Prop} (h1 : kd S t0 = 5) (h2 : kd S v0 = 13) (h3 : gP S 775 v0 = some x1) (hc : ConV l yX0_forget (wsOf yX0_forget cX0_forget 1 none) rX0_forget w S [.ref x1] post) (h4 : k + 0 ≤ rX11_cheapest.cells) (h5 : n + 0 ≤ rX11_cheapest.slots) (h6 : kd S x1 = 2) (kk : ∀ (S' : St), post S' → K p l e rX11_cheapest s m args below meth c 3 w k n (vx_MQ below Qc (XCs w px') args s rX11_cheapest.cells rX11_cheapest.slots (wA w)) S' 30 [(0, .ref v0), (2, .ref t0)] []) : K p l e rX11_cheapest s m args below meth c 3 w k n (vx_MQ below Qc (XCs w px') args s rX11_cheapest.cells rX11_cheapest.slots (wA w)) S 19 [(0, .ref v0)] [.ref t0] := by
  refine k_cast B 4 rfl (by decide) (in_of qkRX11_144) dX11_cheapest_19 h1 ?_
  refine k_astore_n (lst' := [(2, .ref t0), (0, .ref v0)]) B rfl (by decide) rfl dX11_cheapest_22 ?_
  refine k_aload_n B 1 rfl rfl dX11_cheapest_23 ?_
  refine k_getP (f := 775) (r := gP S 775 v0) B 12 7 rfl (by decide) rfl (by decide) rfl rfl (fun w h => in_of (uw_12 w h)) (in_of qfRX11_53) dX11_cheapest_24 h2 rfl ?_
  rw [h3]; change K _ _ _ _ _ _ _ _ _ _ _ _ _ _ _ _ _ _ (.ref x1 :: _)
  refine callV_V (st := []) B [] (hc) (cwV 0 B.1.2.2.2.2 (gV qlRX11_229 qiX0_forget qeX0_forget qzRX0 qcX0_forget) rfl rfl rfl (by decide +kernel) ⟨Nat.le_of_ble_eq_true rfl, Nat.le_of_ble_eq_true rfl⟩) rfl rfl (by decide) h6 (Nat.le_of_ble_eq_true rfl) rfl dX11_cheapest_27 ⟨h4, h5⟩ (fun S' hp => ?_)
  refine k_sub [1, 0] rfl ?_
  exact kk S' hp
theorem bX11_cheapest_30 (B : Bd p s m args meth c cX11_cheapest 3 (wsOf yX11_cheapest cX11_cheapest 3 (some .int)) RX11 w (some .int) "cheapest") (hl : l.stackTraces = false) (ht : ∀ x ∈ c.exceptionTable.toList, False) {v0 : Nat} {v2 : Nat} {post : St → Prop} {k n : Nat} {px' : String → St → Prop} {Qc : Array Value → State → Outcome → State → Prop} (hc : ConV l yX11_weighPuttingIn (wsOf yX11_weighPuttingIn cX11_weighPuttingIn 3 none) rX11_weighPuttingIn w S [.ref v0, .ref v2] post) (h1 : k + 0 ≤ rX11_cheapest.cells) (h2 : n + 0 ≤ rX11_cheapest.slots) (h3 : kd S v0 = 13) (kk : ∀ (S' : St), post S' → K p l e rX11_cheapest s m args below meth c 3 w k n (vx_MQ below Qc (XCs w px') args s rX11_cheapest.cells rX11_cheapest.slots (wA w)) S' 35 [(0, .ref v0)] []) : K p l e rX11_cheapest s m args below meth c 3 w k n (vx_MQ below Qc (XCs w px') args s rX11_cheapest.cells rX11_cheapest.slots (wA w)) S 30 [(0, .ref v0), (2, .ref v2)] [] := by
  refine k_aload_n B 0 rfl rfl dX11_cheapest_30 ?_
  refine k_aload_n B 1 rfl rfl dX11_cheapest_31 ?_
  refine callV_V (st := []) B [.ref v2] (hc) (cwV 1 B.1.2.2.2.2 (gV qlRX11_232 qiX11_weighPuttingIn qeX11_weighPuttingIn qzRX11 qcX11_weighPuttingIn) rfl rfl rfl (by decide +kernel) ⟨Nat.le_of_ble_eq_true rfl, Nat.le_of_ble_eq_true rfl⟩) rfl rfl (by decide) h3 (Nat.le_of_ble_eq_true rfl) rfl dX11_cheapest_32 ⟨h1, h2⟩ (fun S' hp => ?_)
  refine k_sub [0] rfl ?_
  exact kk S' hp
theorem bX11_cheapest_35 (B : Bd p s m args meth c cX11_cheapest 3 (wsOf yX11_cheapest cX11_cheapest 3 (some .int)) RX11 w (some .int) "cheapest") (hl : l.stackTraces = false) (ht : ∀ x ∈ c.exceptionTable.toList, False) {v0 : Nat} {x1 : Nat} {k n : Nat} {px' : String → St → Prop} {Qc : Array Value → State → Outcome → State → Prop} (h1 : kd S v0 = 13) (h2 : gP S 775 v0 = some x1) (h3 : kd S x1 = 2) (kt : ∀ x, gP S 66 x1 = some x → K p l e rX11_cheapest s m args below meth c 3 w k n (vx_MQ below Qc (XCs w px') args s rX11_cheapest.cells rX11_cheapest.slots (wA w)) S 49 [(0, .ref v0)] []) (kf : gP S 66 x1 = none → K p l e rX11_cheapest s m args below meth c 3 w k n (vx_MQ below Qc (XCs w px') args s rX11_cheapest.cells rX11_cheapest.slots (wA w)) S 45 [] []) : K p l e rX11_cheapest s m args below meth c 3 w k n (vx_MQ below Qc (XCs w px') args s rX11_cheapest.cells rX11_cheapest.slots (wA w)) S 35 [(0, .ref v0)] [] := by
  refine k_aload_n B 0 rfl rfl dX11_cheapest_35 ?_
  refine k_getP (f := 775) (r := gP S 775 v0) B 12 7 rfl (by decide) rfl (by decide) rfl rfl (fun w h => in_of (uw_12 w h)) (in_of qfRX11_53) dX11_cheapest_36 h1 rfl ?_
  rw [h2]; change K _ _ _ _ _ _ _ _ _ _ _ _ _ _ _ _ _ _ (.ref x1 :: _)
  refine k_getP (f := 66) (r := gP S 66 x1) B 1 2 rfl (by decide) rfl (by decide) rfl rfl (fun w h => in_of (uw_1 w h)) (in_of qfRX11_235) dX11_cheapest_39 h3 rfl ?_
  refine k_ifnonnull (r := gP S 66 x1) (tgt := 49) B dX11_cheapest_42 (by decide) (fun x c => ?_) (fun c => ?_)
  · exact kt x c
  · refine k_sub [] rfl ?_
    exact kf c
theorem bX11_cheapest_45 (B : Bd p s m args meth c cX11_cheapest 3 (wsOf yX11_cheapest cX11_cheapest 3 (some .int)) RX11 w (some .int) "cheapest") (hl : l.stackTraces = false) (ht : ∀ x ∈ c.exceptionTable.toList, False) {k n : Nat} {px' : String → St → Prop} {Qc : Array Value → State → Outcome → State → Prop}  (kk : K p l e rX11_cheapest s m args below meth c 3 w k n (vx_MQ below Qc (XCs w px') args s rX11_cheapest.cells rX11_cheapest.slots (wA w)) S 56 [] [.int (-1)]) : K p l e rX11_cheapest s m args below meth c 3 w k n (vx_MQ below Qc (XCs w px') args s rX11_cheapest.cells rX11_cheapest.slots (wA w)) S 45 [] [] := by
  refine k_iconst (v := (-1)) B (by decide) dX11_cheapest_45 ?_
  refine k_goto (tgt := 56) B dX11_cheapest_46 (by decide) ?_
  exact kk
theorem bX11_cheapest_49 (B : Bd p s m args meth c cX11_cheapest 3 (wsOf yX11_cheapest cX11_cheapest 3 (some .int)) RX11 w (some .int) "cheapest") (hl : l.stackTraces = false) (ht : ∀ x ∈ c.exceptionTable.toList, False) {v0 : Nat} {x1 : Nat} {k n : Nat} {px' : String → St → Prop} {Qc : Array Value → State → Outcome → State → Prop} (h1 : kd S v0 = 13) (h2 : gP S 775 v0 = some x1) (h3 : kd S x1 = 2) (kk : K p l e rX11_cheapest s m args below meth c 3 w k n (vx_MQ below Qc (XCs w px') args s rX11_cheapest.cells rX11_cheapest.slots (wA w)) S 56 [] [.int (gI S 65 x1)]) : K p l e rX11_cheapest s m args below meth c 3 w k n (vx_MQ below Qc (XCs w px') args s rX11_cheapest.cells rX11_cheapest.slots (wA w)) S 49 [(0, .ref v0)] [] := by
  refine k_aload_n B 0 rfl rfl dX11_cheapest_49 ?_
  refine k_getP (f := 775) (r := gP S 775 v0) B 12 7 rfl (by decide) rfl (by decide) rfl rfl (fun w h => in_of (uw_12 w h)) (in_of qfRX11_53) dX11_cheapest_50 h1 rfl ?_
  rw [h2]; change K _ _ _ _ _ _ _ _ _ _ _ _ _ _ _ _ _ _ (.ref x1 :: _)
  refine k_getI (f := 65) (v := gI S 65 x1) B 1 1 rfl (by decide) rfl (by decide) rfl rfl (fun w h => in_of (uw_1 w h)) (in_of qfRX11_239) dX11_cheapest_53 h3 rfl ?_
  refine k_sub [] rfl ?_
  exact kk
theorem bX11_cheapest_56 (B : Bd p s m args meth c cX11_cheapest 3 (wsOf yX11_cheapest cX11_cheapest 3 (some .int)) RX11 w (some .int) "cheapest") (hl : l.stackTraces = false) (ht : ∀ x ∈ c.exceptionTable.toList, False) {t0 : Int32} {post : Int32 → St → Prop} {k n : Nat} {px' : String → St → Prop} (h1 : k ≤ rX11_cheapest.cells) (h2 : n ≤ rX11_cheapest.slots) (hq : post t0 S) : K p l e rX11_cheapest s m args below meth c 3 w k n (vx_MQ below (va_Qi post (fun S' t => Hd w S' t.heap) (wA w)) (XCs w px') args s rX11_cheapest.cells rX11_cheapest.slots (wA w)) S 56 [] [.int t0] := by
  exact k_xret_I h1 h2 (ret_I B rfl dX11_cheapest_56 (hq))
theorem bX11_plan_0 (B : Bd p s m args meth c cX11_plan 4 (wsOf yX11_plan cX11_plan 4 (some .int)) RX11 w (some .int) "plan") {v0 : Nat} {Q : State → Prop}  (kk : K p l e rX11_plan s m args below meth c 4 w 0 0 Q S 4 [(0, .ref v0), (1, .int 0), (2, .int 0)] []) : K p l e rX11_plan s m args below meth c 4 w 0 0 Q S 0 [(0, .ref v0)] [] := by
  refine k_iconst (v := 0) B (by decide) dX11_plan_0 ?_
  refine k_istore_n (lst' := [(1, .int 0), (0, .ref v0)]) B rfl (by decide) rfl dX11_plan_1 ?_
  refine k_iconst (v := 0) B (by decide) dX11_plan_2 ?_
  refine k_istore_n (lst' := [(2, .int 0), (1, .int 0), (0, .ref v0)]) B rfl (by decide) rfl dX11_plan_3 ?_
  refine k_sub [2, 1, 0] rfl ?_
  exact kk
theorem bX11_plan_4 (B : Bd p s m args meth c cX11_plan 4 (wsOf yX11_plan cX11_plan 4 (some .int)) RX11 w (some .int) "plan") {v0 : Nat} {v1 : Int32} {v2 : Int32} {x1 : Nat} {post : Int32 → St → Prop} {Q : State → Prop} (h1 : kd S v0 = 13) (h2 : gP S 772 v0 = some x1) (hc : ConI l yJx4a65c_size_8abf5 (wsOf yJx4a65c_size_8abf5 cJx4a65c_size_8abf5 1 (some .int)) rJx4a65c_size_8abf5 w S [.ref x1] post) (h3 : kd S x1 = 1) (kk : ∀ (r : Int32) (S' : St), post r S' → K p l e rX11_plan s m args below meth c 4 w 0 0 Q S' 12 [(0, .ref v0), (1, .int v1), (2, .int v2)] [.int r, .int v2]) : K p l e rX11_plan s m args below meth c 4 w 0 0 Q S 4 [(0, .ref v0), (1, .int v1), (2, .int v2)] [] := by
  refine k_iload_n B 2 rfl rfl dX11_plan_4 ?_
  refine k_aload_n B 0 rfl rfl dX11_plan_5 ?_
  refine k_getP (f := 772) (r := gP S 772 v0) B 12 4 rfl (by decide) rfl (by decide) rfl rfl (fun w h => in_of (uw_12 w h)) (in_of qfRX11_29) dX11_plan_6 h1 rfl ?_
  rw [h2]; change K _ _ _ _ _ _ _ _ _ _ _ _ _ _ _ _ _ _ (.ref x1 :: _)
  refine callV_I (st := [.int v2]) B [] (hc) (cwV 0 B.1.2.2.2.2 (gV qlRX11_101 qiJx4a65c_size_8abf5 qeJx4a65c_size_8abf5 qzRJx4a65c qcJx4a65c_size_8abf5) rfl rfl rfl (by decide +kernel) ⟨Nat.le_of_ble_eq_true rfl, Nat.le_of_ble_eq_true rfl⟩) rfl rfl (by decide) h3 (Nat.le_of_ble_eq_true rfl) rfl dX11_plan_9 ⟨Nat.le_of_ble_eq_true rfl, Nat.le_of_ble_eq_true rfl⟩ (fun r S' hp => ?_)
  exact kk r S' hp
theorem bX11_plan_12 (B : Bd p s m args meth c cX11_plan 4 (wsOf yX11_plan cX11_plan 4 (some .int)) RX11 w (some .int) "plan") {v0 : Nat} {v1 : Int32} {v2 : Int32} {t0 : Int32} {t1 : Int32} {Q : State → Prop}  (kt : t1 ≤ t0 → K p l e rX11_plan s m args below meth c 4 w 0 0 Q S 96 [(1, .int v1)] []) (kf : ¬ t1 ≤ t0 → K p l e rX11_plan s m args below meth c 4 w 0 0 Q S 15 [(0, .ref v0), (1, .int v1), (2, .int v2)] []) : K p l e rX11_plan s m args below meth c 4 w 0 0 Q S 12 [(0, .ref v0), (1, .int v1), (2, .int v2)] [.int t1, .int t0] := by
  refine k_icmp_ge (tgt := 96) B dX11_plan_12 (by decide) (fun c => ?_) (fun c => ?_)
  · refine k_sub [1] rfl ?_
    exact kt c
  · exact kf c
theorem bX11_plan_15 (B : Bd p s m args meth c cX11_plan 4 (wsOf yX11_plan cX11_plan 4 (some .int)) RX11 w (some .int) "plan") {v0 : Nat} {v1 : Int32} {v2 : Int32} {x1 : Nat} {post : St → Prop} {Q : State → Prop} (h1 : kd S v0 = 13) (h2 : gP S 775 v0 = some x1) (hc : ConV l yX0_forget (wsOf yX0_forget cX0_forget 1 none) rX0_forget w S [.ref x1] post) (h3 : kd S x1 = 2) (kk : ∀ (S' : St), post S' → K p l e rX11_plan s m args below meth c 4 w 0 0 Q S' 22 [(0, .ref v0), (1, .int v1), (2, .int v2)] []) : K p l e rX11_plan s m args below meth c 4 w 0 0 Q S 15 [(0, .ref v0), (1, .int v1), (2, .int v2)] [] := by
  refine k_aload_n B 0 rfl rfl dX11_plan_15 ?_
  refine k_getP (f := 775) (r := gP S 775 v0) B 12 7 rfl (by decide) rfl (by decide) rfl rfl (fun w h => in_of (uw_12 w h)) (in_of qfRX11_53) dX11_plan_16 h1 rfl ?_
  rw [h2]; change K _ _ _ _ _ _ _ _ _ _ _ _ _ _ _ _ _ _ (.ref x1 :: _)
  refine callV_V (st := []) B [] (hc) (cwV 0 B.1.2.2.2.2 (gV qlRX11_229 qiX0_forget qeX0_forget qzRX0 qcX0_forget) rfl rfl rfl (by decide +kernel) ⟨Nat.le_of_ble_eq_true rfl, Nat.le_of_ble_eq_true rfl⟩) rfl rfl (by decide) h3 (Nat.le_of_ble_eq_true rfl) rfl dX11_plan_19 ⟨Nat.le_of_ble_eq_true rfl, Nat.le_of_ble_eq_true rfl⟩ (fun S' hp => ?_)
  exact kk S' hp
theorem bX11_plan_22 (B : Bd p s m args meth c cX11_plan 4 (wsOf yX11_plan cX11_plan 4 (some .int)) RX11 w (some .int) "plan") {v0 : Nat} {v1 : Int32} {v2 : Int32} {Q : State → Prop}  (kk : K p l e rX11_plan s m args below meth c 4 w 0 0 Q S 24 [(0, .ref v0), (1, .int v1), (2, .int v2), (3, .int 0)] []) : K p l e rX11_plan s m args below meth c 4 w 0 0 Q S 22 [(0, .ref v0), (1, .int v1), (2, .int v2)] [] := by
  refine k_iconst (v := 0) B (by decide) dX11_plan_22 ?_
  refine k_istore_n (lst' := [(3, .int 0), (0, .ref v0), (1, .int v1), (2, .int v2)]) B rfl (by decide) rfl dX11_plan_23 ?_
  refine k_sub [1, 2, 3, 0] rfl ?_
  exact kk
theorem bX11_plan_24 (B : Bd p s m args meth c cX11_plan 4 (wsOf yX11_plan cX11_plan 4 (some .int)) RX11 w (some .int) "plan") {v0 : Nat} {v1 : Int32} {v2 : Int32} {v3 : Int32} {x1 : Nat} {post : Int32 → St → Prop} {Q : State → Prop} (h1 : kd S v0 = 13) (h2 : gP S 772 v0 = some x1) (hc : ConI l yJx4a65c_size_8abf5 (wsOf yJx4a65c_size_8abf5 cJx4a65c_size_8abf5 1 (some .int)) rJx4a65c_size_8abf5 w S [.ref x1] post) (h3 : kd S x1 = 1) (kk : ∀ (r : Int32) (S' : St), post r S' → K p l e rX11_plan s m args below meth c 4 w 0 0 Q S' 32 [(0, .ref v0), (1, .int v1), (2, .int v2), (3, .int v3)] [.int r, .int v3]) : K p l e rX11_plan s m args below meth c 4 w 0 0 Q S 24 [(0, .ref v0), (1, .int v1), (2, .int v2), (3, .int v3)] [] := by
  refine k_iload_n B 3 rfl rfl dX11_plan_24 ?_
  refine k_aload_n B 0 rfl rfl dX11_plan_25 ?_
  refine k_getP (f := 772) (r := gP S 772 v0) B 12 4 rfl (by decide) rfl (by decide) rfl rfl (fun w h => in_of (uw_12 w h)) (in_of qfRX11_29) dX11_plan_26 h1 rfl ?_
  rw [h2]; change K _ _ _ _ _ _ _ _ _ _ _ _ _ _ _ _ _ _ (.ref x1 :: _)
  refine callV_I (st := [.int v3]) B [] (hc) (cwV 0 B.1.2.2.2.2 (gV qlRX11_101 qiJx4a65c_size_8abf5 qeJx4a65c_size_8abf5 qzRJx4a65c qcJx4a65c_size_8abf5) rfl rfl rfl (by decide +kernel) ⟨Nat.le_of_ble_eq_true rfl, Nat.le_of_ble_eq_true rfl⟩) rfl rfl (by decide) h3 (Nat.le_of_ble_eq_true rfl) rfl dX11_plan_29 ⟨Nat.le_of_ble_eq_true rfl, Nat.le_of_ble_eq_true rfl⟩ (fun r S' hp => ?_)
  exact kk r S' hp
theorem bX11_plan_32 (B : Bd p s m args meth c cX11_plan 4 (wsOf yX11_plan cX11_plan 4 (some .int)) RX11 w (some .int) "plan") {v0 : Nat} {v1 : Int32} {v2 : Int32} {v3 : Int32} {t0 : Int32} {t1 : Int32} {Q : State → Prop}  (kt : t1 ≤ t0 → K p l e rX11_plan s m args below meth c 4 w 0 0 Q S 56 [(0, .ref v0), (1, .int v1), (2, .int v2)] []) (kf : ¬ t1 ≤ t0 → K p l e rX11_plan s m args below meth c 4 w 0 0 Q S 35 [(0, .ref v0), (1, .int v1), (2, .int v2), (3, .int v3)] []) : K p l e rX11_plan s m args below meth c 4 w 0 0 Q S 32 [(0, .ref v0), (1, .int v1), (2, .int v2), (3, .int v3)] [.int t1, .int t0] := by
  refine k_icmp_ge (tgt := 56) B dX11_plan_32 (by decide) (fun c => ?_) (fun c => ?_)
  · refine k_sub [0, 1, 2] rfl ?_
    exact kt c
  · exact kf c
theorem bX11_plan_35 (B : Bd p s m args meth c cX11_plan 4 (wsOf yX11_plan cX11_plan 4 (some .int)) RX11 w (some .int) "plan") {v0 : Nat} {v1 : Int32} {v2 : Int32} {v3 : Int32} {x1 : Nat} {post : Nat → St → Prop} {Q : State → Prop} (h1 : kd S v0 = 13) (h2 : gP S 772 v0 = some x1) (hc : ConR l yJx4a65c_get_915e3 (wsOf yJx4a65c_get_915e3 cJx4a65c_get_915e3 2 (some (.object "java/lang/Object"))) rJx4a65c_get_915e3 w S [.ref x1, .int v3] post) (h3 : kd S x1 = 1) (kk : ∀ (r : Nat) (S' : St), post r S' → K p l e rX11_plan s m args below meth c 4 w 0 0 Q S' 44 [(0, .ref v0), (1, .int v1), (2, .int v2), (3, .int v3)] [.ref r, .ref v0]) : K p l e rX11_plan s m args below meth c 4 w 0 0 Q S 35 [(0, .ref v0), (1, .int v1), (2, .int v2), (3, .int v3)] [] := by
  refine k_aload_n B 0 rfl rfl dX11_plan_35 ?_
  refine k_aload_n B 0 rfl rfl dX11_plan_36 ?_
  refine k_getP (f := 772) (r := gP S 772 v0) B 12 4 rfl (by decide) rfl (by decide) rfl rfl (fun w h => in_of (uw_12 w h)) (in_of qfRX11_29) dX11_plan_37 h1 rfl ?_
  rw [h2]; change K _ _ _ _ _ _ _ _ _ _ _ _ _ _ _ _ _ _ (.ref x1 :: _)
  refine k_iload_n B 3 rfl rfl dX11_plan_40 ?_
  refine callV_R (st := [.ref v0]) B [.int v3] (hc) (cwV 1 B.1.2.2.2.2 (gV qlRX11_124 qiJx4a65c_get_915e3 qeJx4a65c_get_915e3 qzRJx4a65c qcJx4a65c_get_915e3) rfl rfl rfl (by decide +kernel) ⟨Nat.le_of_ble_eq_true rfl, Nat.le_of_ble_eq_true rfl⟩) rfl rfl (by decide) h3 (Nat.le_of_ble_eq_true rfl) rfl dX11_plan_41 ⟨Nat.le_of_ble_eq_true rfl, Nat.le_of_ble_eq_true rfl⟩ (fun r S' hp => ?_)
  exact kk r S' hp
theorem bX11_plan_44 (B : Bd p s m args meth c cX11_plan 4 (wsOf yX11_plan cX11_plan 4 (some .int)) RX11 w (some .int) "plan") {v0 : Nat} {v1 : Int32} {v2 : Int32} {v3 : Int32} {t0 : Nat} {t1 : Nat} {post : St → Prop} {Q : State → Prop} (h1 : kd S t1 = 5) (hc : ConV l yX11_weighPuttingIn (wsOf yX11_weighPuttingIn cX11_weighPuttingIn 3 none) rX11_weighPuttingIn w S [.ref t0, .ref t1] post) (h2 : kd S t0 = 13) (kk : ∀ (S' : St), post S' → K p l e rX11_plan s m args below meth c 4 w 0 0 Q S' 50 [(0, .ref v0), (1, .int v1), (2, .int v2), (3, .int v3)] []) : K p l e rX11_plan s m args below meth c 4 w 0 0 Q S 44 [(0, .ref v0), (1, .int v1), (2, .int v2), (3, .int v3)] [.ref t1, .ref t0] := by
  refine k_cast B 4 rfl (by decide) (in_of qkRX11_144) dX11_plan_44 h1 ?_
  refine callV_V (st := []) B [.ref t1] (hc) (cwV 1 B.1.2.2.2.2 (gV qlRX11_232 qiX11_weighPuttingIn qeX11_weighPuttingIn qzRX11 qcX11_weighPuttingIn) rfl rfl rfl (by decide +kernel) ⟨Nat.le_of_ble_eq_true rfl, Nat.le_of_ble_eq_true rfl⟩) rfl rfl (by decide) h2 (Nat.le_of_ble_eq_true rfl) rfl dX11_plan_47 ⟨Nat.le_of_ble_eq_true rfl, Nat.le_of_ble_eq_true rfl⟩ (fun S' hp => ?_)
  exact kk S' hp
theorem bX11_plan_50 (B : Bd p s m args meth c cX11_plan 4 (wsOf yX11_plan cX11_plan 4 (some .int)) RX11 w (some .int) "plan") {v0 : Nat} {v1 : Int32} {v2 : Int32} {v3 : Int32} {Q : State → Prop}  (kk : K p l e rX11_plan s m args below meth c 4 w 0 0 Q S 24 [(0, .ref v0), (1, .int v1), (2, .int v2), (3, .int (v3 + 1))] []) : K p l e rX11_plan s m args below meth c 4 w 0 0 Q S 50 [(0, .ref v0), (1, .int v1), (2, .int v2), (3, .int v3)] [] := by
  refine k_iinc (v := v3 + 1) (lst' := [(3, .int (v3 + 1)), (0, .ref v0), (1, .int v1), (2, .int v2)]) B 3 rfl rfl (by decide) rfl dX11_plan_50 ?_
  refine k_goto (tgt := 24) B dX11_plan_53 (by decide) ?_
  refine k_sub [1, 2, 3, 0] rfl ?_
  exact kk
theorem bX11_plan_56 (B : Bd p s m args meth c cX11_plan 4 (wsOf yX11_plan cX11_plan 4 (some .int)) RX11 w (some .int) "plan") {v0 : Nat} {v1 : Int32} {v2 : Int32} {x1 : Nat} {Q : State → Prop} (h1 : kd S v0 = 13) (h2 : gP S 775 v0 = some x1) (h3 : kd S x1 = 2) (kt : ∀ x, gP S 66 x1 = some x → K p l e rX11_plan s m args below meth c 4 w 0 0 Q S 69 [(0, .ref v0), (1, .int v1), (2, .int v2)] []) (kf : gP S 66 x1 = none → K p l e rX11_plan s m args below meth c 4 w 0 0 Q S 66 [(1, .int v1)] []) : K p l e rX11_plan s m args below meth c 4 w 0 0 Q S 56 [(0, .ref v0), (1, .int v1), (2, .int v2)] [] := by
  refine k_aload_n B 0 rfl rfl dX11_plan_56 ?_
  refine k_getP (f := 775) (r := gP S 775 v0) B 12 7 rfl (by decide) rfl (by decide) rfl rfl (fun w h => in_of (uw_12 w h)) (in_of qfRX11_53) dX11_plan_57 h1 rfl ?_
  rw [h2]; change K _ _ _ _ _ _ _ _ _ _ _ _ _ _ _ _ _ _ (.ref x1 :: _)
  refine k_getP (f := 66) (r := gP S 66 x1) B 1 2 rfl (by decide) rfl (by decide) rfl rfl (fun w h => in_of (uw_1 w h)) (in_of qfRX11_235) dX11_plan_60 h3 rfl ?_
  refine k_ifnonnull (r := gP S 66 x1) (tgt := 69) B dX11_plan_63 (by decide) (fun x c => ?_) (fun c => ?_)
  · exact kt x c
  · refine k_sub [1] rfl ?_
    exact kf c
theorem bX11_plan_66 (B : Bd p s m args meth c cX11_plan 4 (wsOf yX11_plan cX11_plan 4 (some .int)) RX11 w (some .int) "plan") {v1 : Int32} {Q : State → Prop}  (kk : K p l e rX11_plan s m args below meth c 4 w 0 0 Q S 96 [(1, .int v1)] []) : K p l e rX11_plan s m args below meth c 4 w 0 0 Q S 66 [(1, .int v1)] [] := by
  refine k_goto (tgt := 96) B dX11_plan_66 (by decide) ?_
  exact kk
theorem bX11_plan_69 (B : Bd p s m args meth c cX11_plan 4 (wsOf yX11_plan cX11_plan 4 (some .int)) RX11 w (some .int) "plan") {v0 : Nat} {v1 : Int32} {v2 : Int32} {x1 : Nat} {x2 : Nat} {x3 : Nat} {post : St → Prop} {Q : State → Prop} (h1 : kd S v0 = 13) (h2 : gP S 775 v0 = some x1) (h3 : kd S x1 = 2) (h4 : gP S 66 x1 = some x2) (h5 : gP S 775 v0 = some x3) (h6 : kd S x3 = 2) (hc : ConV l yX11_putInAtSpot (wsOf yX11_putInAtSpot cX11_putInAtSpot 3 none) rX11_putInAtSpot w S [.ref v0, .ref x2, .int (gI S 65 x3)] post) (kk : ∀ (S' : St), post S' → K p l e rX11_plan s m args below meth c 4 w 0 0 Q S' 87 [(0, .ref v0), (1, .int v1), (2, .int v2)] []) : K p l e rX11_plan s m args below meth c 4 w 0 0 Q S 69 [(0, .ref v0), (1, .int v1), (2, .int v2)] [] := by
  refine k_aload_n B 0 rfl rfl dX11_plan_69 ?_
  refine k_aload_n B 0 rfl rfl dX11_plan_70 ?_
  refine k_getP (f := 775) (r := gP S 775 v0) B 12 7 rfl (by decide) rfl (by decide) rfl rfl (fun w h => in_of (uw_12 w h)) (in_of qfRX11_53) dX11_plan_71 h1 rfl ?_
  rw [h2]; change K _ _ _ _ _ _ _ _ _ _ _ _ _ _ _ _ _ _ (.ref x1 :: _)
  refine k_getP (f := 66) (r := gP S 66 x1) B 1 2 rfl (by decide) rfl (by decide) rfl rfl (fun w h => in_of (uw_1 w h)) (in_of qfRX11_235) dX11_plan_74 h3 rfl ?_
  rw [h4]; change K _ _ _ _ _ _ _ _ _ _ _ _ _ _ _ _ _ _ (.ref x2 :: _)
  refine k_aload_n B 0 rfl rfl dX11_plan_77 ?_
  refine k_getP (f := 775) (r := gP S 775 v0) B 12 7 rfl (by decide) rfl (by decide) rfl rfl (fun w h => in_of (uw_12 w h)) (in_of qfRX11_53) dX11_plan_78 h1 rfl ?_
  rw [h5]; change K _ _ _ _ _ _ _ _ _ _ _ _ _ _ _ _ _ _ (.ref x3 :: _)
  refine k_getI (f := 65) (v := gI S 65 x3) B 1 1 rfl (by decide) rfl (by decide) rfl rfl (fun w h => in_of (uw_1 w h)) (in_of qfRX11_239) dX11_plan_81 h6 rfl ?_
  refine callV_V (st := []) B [.ref x2, .int (gI S 65 x3)] (hc) (cwV 2 B.1.2.2.2.2 (gV qlRX11_242 qiX11_putInAtSpot qeX11_putInAtSpot qzRX11 qcX11_putInAtSpot) rfl rfl rfl (by decide +kernel) ⟨Nat.le_of_ble_eq_true rfl, Nat.le_of_ble_eq_true rfl⟩) rfl rfl (by decide) h1 (Nat.le_of_ble_eq_true rfl) rfl dX11_plan_84 ⟨Nat.le_of_ble_eq_true rfl, Nat.le_of_ble_eq_true rfl⟩ (fun S' hp => ?_)
  exact kk S' hp
theorem bX11_plan_87 (B : Bd p s m args meth c cX11_plan 4 (wsOf yX11_plan cX11_plan 4 (some .int)) RX11 w (some .int) "plan") {v0 : Nat} {v1 : Int32} {v2 : Int32} {Q : State → Prop}  (kk : K p l e rX11_plan s m args below meth c 4 w 0 0 Q S 4 [(0, .ref v0), (1, .int (v1 + 1)), (2, .int (v2 + 1))] []) : K p l e rX11_plan s m args below meth c 4 w 0 0 Q S 87 [(0, .ref v0), (1, .int v1), (2, .int v2)] [] := by
  refine k_iinc (v := v1 + 1) (lst' := [(1, .int (v1 + 1)), (0, .ref v0), (2, .int v2)]) B 1 rfl rfl (by decide) rfl dX11_plan_87 ?_
  refine k_iinc (v := v2 + 1) (lst' := [(2, .int (v2 + 1)), (1, .int (v1 + 1)), (0, .ref v0)]) B 2 rfl rfl (by decide) rfl dX11_plan_90 ?_
  refine k_goto (tgt := 4) B dX11_plan_93 (by decide) ?_
  refine k_sub [2, 1, 0] rfl ?_
  exact kk
theorem bX11_plan_96 (B : Bd p s m args meth c cX11_plan 4 (wsOf yX11_plan cX11_plan 4 (some .int)) RX11 w (some .int) "plan") {v1 : Int32} {post : Int32 → St → Prop}  (hq : post v1 S) : K p l e rX11_plan s m args below meth c 4 w 0 0 (MQ below (va_Qi post (fun S' t => Hd w S' t.heap) (wA w)) args s 0 0 (wA w)) S 96 [(1, .int v1)] [] := by
  refine k_iload_n B 0 rfl rfl dX11_plan_96 ?_
  exact ret_I B rfl dX11_plan_97 (hq)
theorem bX11_improve_0 (B : Bd p s m args meth c cX11_improve 10 (wsOf yX11_improve cX11_improve 10 (some .int)) RX11 w (some .int) "improve") (hl : l.stackTraces = false) (ht : ∀ x ∈ c.exceptionTable.toList, False) {v0 : Nat} {v1 : Int32} {x1 : Nat} {post : Int32 → St → Prop} {k n : Nat} {px' : String → St → Prop} {Qc : Array Value → State → Outcome → State → Prop} (h1 : kd S v0 = 13) (h2 : gP S 771 v0 = some x1) (hc : ConI l yJx4a65c_size_8abf5 (wsOf yJx4a65c_size_8abf5 cJx4a65c_size_8abf5 1 (some .int)) rJx4a65c_size_8abf5 w S [.ref x1] post) (h3 : k + 0 ≤ rX11_improve.cells) (h4 : n + 0 ≤ rX11_improve.slots) (h5 : kd S x1 = 1) (kk : ∀ (r : Int32) (S' : St), post r S' → K p l e rX11_improve s m args below meth c 10 w k n (vx_MQ below Qc (XCs w px') args s rX11_improve.cells rX11_improve.slots (wA w)) S' 8 [(0, .ref v0), (1, .int v1)] [.int r, .int v1]) : K p l e rX11_improve s m args below meth c 10 w k n (vx_MQ below Qc (XCs w px') args s rX11_improve.cells rX11_improve.slots (wA w)) S 0 [(0, .ref v0), (1, .int v1)] [] := by
  refine k_iload_n B 1 rfl rfl dX11_improve_0 ?_
  refine k_aload_n B 0 rfl rfl dX11_improve_1 ?_
  refine k_getP (f := 771) (r := gP S 771 v0) B 12 3 rfl (by decide) rfl (by decide) rfl rfl (fun w h => in_of (uw_12 w h)) (in_of qfRX11_26) dX11_improve_2 h1 rfl ?_
  rw [h2]; change K _ _ _ _ _ _ _ _ _ _ _ _ _ _ _ _ _ _ (.ref x1 :: _)
  refine callV_I (st := [.int v1]) B [] (hc) (cwV 0 B.1.2.2.2.2 (gV qlRX11_101 qiJx4a65c_size_8abf5 qeJx4a65c_size_8abf5 qzRJx4a65c qcJx4a65c_size_8abf5) rfl rfl rfl (by decide +kernel) ⟨Nat.le_of_ble_eq_true rfl, Nat.le_of_ble_eq_true rfl⟩) rfl rfl (by decide) h5 (Nat.le_of_ble_eq_true rfl) rfl dX11_improve_5 ⟨h3, h4⟩ (fun r S' hp => ?_)
  exact kk r S' hp
theorem bX11_improve_8 (B : Bd p s m args meth c cX11_improve 10 (wsOf yX11_improve cX11_improve 10 (some .int)) RX11 w (some .int) "improve") (hl : l.stackTraces = false) (ht : ∀ x ∈ c.exceptionTable.toList, False) {v0 : Nat} {v1 : Int32} {t0 : Int32} {t1 : Int32} {px : String → St → Prop} {post : St → Prop} {k n : Nat} {px' : String → St → Prop} {Qc : Array Value → State → Outcome → State → Prop} (hc : ConXV l yX11_needIndex (wsOf yX11_needIndex cX11_needIndex 2 none) rX11_needIndex w S [.int t0, .int t1] post px) (h1 : k + 1 ≤ rX11_improve.cells) (h2 : n + 6 ≤ rX11_improve.slots) (kx : ∀ (E : String) (S' : St), px E S' → px' E S') (kk : ∀ (S' : St), post S' → K p l e rX11_improve s m args below meth c 10 w (k + 1) (n + 6) (vx_MQ below Qc (XCs w px') args s rX11_improve.cells rX11_improve.slots (wA w)) S' 11 [(0, .ref v0), (1, .int v1)] []) : K p l e rX11_improve s m args below meth c 10 w k n (vx_MQ below Qc (XCs w px') args s rX11_improve.cells rX11_improve.slots (wA w)) S 8 [(0, .ref v0), (1, .int v1)] [.int t1, .int t0] := by
  refine tcallS_V (st := []) B ht [.int t0, .int t1] (hc) (va_cwS 2 B.1.2.2.2.2 (gS qlRX11_71 qsX11_needIndex qzRX11 qcX11_needIndex) rfl rfl rfl (by decide +kernel) ⟨Nat.le_of_ble_eq_true rfl, Nat.le_of_ble_eq_true rfl⟩) rfl (Nat.le_of_ble_eq_true rfl) rfl dX11_improve_8 ⟨h1, h2⟩ ⟨h1, h2⟩ (kx) (fun S' hp => ?_)
  exact kk S' hp
theorem bX11_improve_11 (B : Bd p s m args meth c cX11_improve 10 (wsOf yX11_improve cX11_improve 10 (some .int)) RX11 w (some .int) "improve") (hl : l.stackTraces = false) (ht : ∀ x ∈ c.exceptionTable.toList, False) {v0 : Nat} {v1 : Int32} {x1 : Nat} {post : Nat → St → Prop} {k n : Nat} {px' : String → St → Prop} {Qc : Array Value → State → Outcome → State → Prop} (h1 : kd S v0 = 13) (h2 : gP S 771 v0 = some x1) (hc : ConR l yJx4a65c_get_915e3 (wsOf yJx4a65c_get_915e3 cJx4a65c_get_915e3 2 (some (.object "java/lang/Object"))) rJx4a65c_get_915e3 w S [.ref x1, .int v1] post) (h3 : k + 0 ≤ rX11_improve.cells) (h4 : n + 0 ≤ rX11_improve.slots) (h5 : kd S x1 = 1) (kk : ∀ (r : Nat) (S' : St), post r S' → K p l e rX11_improve s m args below meth c 10 w k n (vx_MQ below Qc (XCs w px') args s rX11_improve.cells rX11_improve.slots (wA w)) S' 19 [(0, .ref v0)] [.ref r]) : K p l e rX11_improve s m args below meth c 10 w k n (vx_MQ below Qc (XCs w px') args s rX11_improve.cells rX11_improve.slots (wA w)) S 11 [(0, .ref v0), (1, .int v1)] [] := by
  refine k_aload_n B 0 rfl rfl dX11_improve_11 ?_
  refine k_getP (f := 771) (r := gP S 771 v0) B 12 3 rfl (by decide) rfl (by decide) rfl rfl (fun w h => in_of (uw_12 w h)) (in_of qfRX11_26) dX11_improve_12 h1 rfl ?_
  rw [h2]; change K _ _ _ _ _ _ _ _ _ _ _ _ _ _ _ _ _ _ (.ref x1 :: _)
  refine k_iload_n B 1 rfl rfl dX11_improve_15 ?_
  refine callV_R (st := []) B [.int v1] (hc) (cwV 1 B.1.2.2.2.2 (gV qlRX11_124 qiJx4a65c_get_915e3 qeJx4a65c_get_915e3 qzRJx4a65c qcJx4a65c_get_915e3) rfl rfl rfl (by decide +kernel) ⟨Nat.le_of_ble_eq_true rfl, Nat.le_of_ble_eq_true rfl⟩) rfl rfl (by decide) h5 (Nat.le_of_ble_eq_true rfl) rfl dX11_improve_16 ⟨h3, h4⟩ (fun r S' hp => ?_)
  refine k_sub [0] rfl ?_
  exact kk r S' hp
theorem bX11_improve_19 (B : Bd p s m args meth c cX11_improve 10 (wsOf yX11_improve cX11_improve 10 (some .int)) RX11 w (some .int) "improve") (hl : l.stackTraces = false) (ht : ∀ x ∈ c.exceptionTable.toList, False) {v0 : Nat} {t0 : Nat} {x1 : Nat} {x2 : Nat} {post : Int32 → St → Prop} {k n : Nat} {px' : String → St → Prop} {Qc : Array Value → State → Outcome → State → Prop} (h1 : kd S t0 = 12) (h2 : kd S v0 = 13) (h3 : gP S 773 v0 = some x1) (h4 : gP S 708 t0 = some x2) (hc : ConI l yX7_follow (wsOf yX7_follow cX7_follow 6 (some .int)) rX7_follow w S [.ref x1, .ref t0, .ref x2] post) (h5 : k + 0 ≤ rX11_improve.cells) (h6 : n + 0 ≤ rX11_improve.slots) (h7 : kd S x1 = 9) (kk : ∀ (r : Int32) (S' : St), post r S' → K p l e rX11_improve s m args below meth c 10 w k n (vx_MQ below Qc (XCs w px') args s rX11_improve.cells rX11_improve.slots (wA w)) S' 35 [(0, .ref v0), (2, .ref t0)] [.int r]) : K p l e rX11_improve s m args below meth c 10 w k n (vx_MQ below Qc (XCs w px') args s rX11_improve.cells rX11_improve.slots (wA w)) S 19 [(0, .ref v0)] [.ref t0] := by
  refine k_cast B 11 rfl (by decide) (in_of qkRX11_139) dX11_improve_19 h1 ?_
  refine k_astore_n (lst' := [(2, .ref t0), (0, .ref v0)]) B rfl (by decide) rfl dX11_improve_22 ?_
  refine k_aload_n B 1 rfl rfl dX11_improve_23 ?_
  refine k_getP (f := 773) (r := gP S 773 v0) B 12 5 rfl (by decide) rfl (by decide) rfl rfl (fun w h => in_of (uw_12 w h)) (in_of qfRX11_37) dX11_improve_24 h2 rfl ?_
  rw [h3]; change K _ _ _ _ _ _ _ _ _ _ _ _ _ _ _ _ _ _ (.ref x1 :: _)
  refine k_aload_n B 0 rfl rfl dX11_improve_27 ?_
  refine k_aload_n B 0 rfl rfl dX11_improve_28 ?_
  refine k_getP (f := 708) (r := gP S 708 t0) B 11 4 rfl (by decide) rfl (by decide) rfl rfl (fun w h => in_of (uw_11 w h)) (in_of qfRX11_187) dX11_improve_29 h1 rfl ?_
  rw [h4]; change K _ _ _ _ _ _ _ _ _ _ _ _ _ _ _ _ _ _ (.ref x2 :: _)
  refine callV_I (st := []) B [.ref t0, .ref x2] (hc) (cwV 2 B.1.2.2.2.2 (gV qlRX11_190 qiX7_follow qeX7_follow qzRX7 qcX7_follow) rfl rfl rfl (by decide +kernel) ⟨Nat.le_of_ble_eq_true rfl, Nat.le_of_ble_eq_true rfl⟩) rfl rfl (by decide) h7 (Nat.le_of_ble_eq_true rfl) rfl dX11_improve_32 ⟨h5, h6⟩ (fun r S' hp => ?_)
  refine k_sub [1, 0] rfl ?_
  exact kk r S' hp
theorem bX11_improve_35 (B : Bd p s m args meth c cX11_improve 10 (wsOf yX11_improve cX11_improve 10 (some .int)) RX11 w (some .int) "improve") (hl : l.stackTraces = false) (ht : ∀ x ∈ c.exceptionTable.toList, False) {v0 : Nat} {v2 : Nat} {t0 : Int32} {k n : Nat} {px' : String → St → Prop} {Qc : Array Value → State → Outcome → State → Prop}  (kk : K p l e rX11_improve s m args below meth c 10 w k n (vx_MQ below Qc (XCs w px') args s rX11_improve.cells rX11_improve.slots (wA w)) S 48 [(0, .ref v0), (2, .ref v2), (3, .int t0), (4, .int t0), (5, .int 0), (6, .int 0), (7, .int 0)] []) : K p l e rX11_improve s m args below meth c 10 w k n (vx_MQ below Qc (XCs w px') args s rX11_improve.cells rX11_improve.slots (wA w)) S 35 [(0, .ref v0), (2, .ref v2)] [.int t0] := by
  refine k_istore_n (lst' := [(3, .int t0), (0, .ref v0), (2, .ref v2)]) B rfl (by decide) rfl dX11_improve_35 ?_
  refine k_iload_n B 0 rfl rfl dX11_improve_36 ?_
  refine k_istore (lst' := [(4, .int t0), (3, .int t0), (0, .ref v0), (2, .ref v2)]) B (by decide) rfl dX11_improve_37 ?_
  refine k_iconst (v := 0) B (by decide) dX11_improve_39 ?_
  refine k_istore (lst' := [(5, .int 0), (4, .int t0), (3, .int t0), (0, .ref v0), (2, .ref v2)]) B (by decide) rfl dX11_improve_40 ?_
  refine k_iconst (v := 0) B (by decide) dX11_improve_42 ?_
  refine k_istore (lst' := [(6, .int 0), (5, .int 0), (4, .int t0), (3, .int t0), (0, .ref v0), (2, .ref v2)]) B (by decide) rfl dX11_improve_43 ?_
  refine k_iconst (v := 0) B (by decide) dX11_improve_45 ?_
  refine k_istore (lst' := [(7, .int 0), (6, .int 0), (5, .int 0), (4, .int t0), (3, .int t0), (0, .ref v0), (2, .ref v2)]) B (by decide) rfl dX11_improve_46 ?_
  refine k_sub [5, 6, 4, 3, 2, 1, 0] rfl ?_
  exact kk
theorem bX11_improve_48 (B : Bd p s m args meth c cX11_improve 10 (wsOf yX11_improve cX11_improve 10 (some .int)) RX11 w (some .int) "improve") (hl : l.stackTraces = false) (ht : ∀ x ∈ c.exceptionTable.toList, False) {v0 : Nat} {v2 : Nat} {v3 : Int32} {v4 : Int32} {v5 : Int32} {v6 : Int32} {v7 : Int32} {x1 : Nat} {k n : Nat} {px' : String → St → Prop} {Qc : Array Value → State → Outcome → State → Prop} (h1 : kd S v2 = 12) (h2 : gP S 708 v2 = some x1) (h3 : kd S x1 = 8) (kt : (gI S 449 x1) ≤ v7 → K p l e rX11_improve s m args below meth c 10 w k n (vx_MQ below Qc (XCs w px') args s rX11_improve.cells rX11_improve.slots (wA w)) S 162 [(2, .ref v2), (3, .int v3), (4, .int v4), (5, .int v5), (6, .int v6)] []) (kf : ¬ (gI S 449 x1) ≤ v7 → K p l e rX11_improve s m args below meth c 10 w k n (vx_MQ below Qc (XCs w px') args s rX11_improve.cells rX11_improve.slots (wA w)) S 60 [(0, .ref v0), (2, .ref v2), (3, .int v3), (4, .int v4), (5, .int v5), (6, .int v6), (7, .int v7)] []) : K p l e rX11_improve s m args below meth c 10 w k n (vx_MQ below Qc (XCs w px') args s rX11_improve.cells rX11_improve.slots (wA w)) S 48 [(0, .ref v0), (2, .ref v2), (3, .int v3), (4, .int v4), (5, .int v5), (6, .int v6), (7, .int v7)] [] := by
  refine k_iload B 6 rfl dX11_improve_48 ?_
  refine k_aload_n B 1 rfl rfl dX11_improve_50 ?_
  refine k_getP (f := 708) (r := gP S 708 v2) B 11 4 rfl (by decide) rfl (by decide) rfl rfl (fun w h => in_of (uw_11 w h)) (in_of qfRX11_187) dX11_improve_51 h1 rfl ?_
  rw [h2]; change K _ _ _ _ _ _ _ _ _ _ _ _ _ _ _ _ _ _ (.ref x1 :: _)
  refine k_getI (f := 449) (v := gI S 449 x1) B 7 1 rfl (by decide) rfl (by decide) rfl rfl (fun w h => in_of (uw_7 w h)) (in_of qfRX11_246) dX11_improve_54 h3 rfl ?_
  refine k_icmp_ge (tgt := 162) B dX11_improve_57 (by decide) (fun c => ?_) (fun c => ?_)
  · refine k_sub [1, 2, 3, 4, 5] rfl ?_
    exact kt c
  · exact kf c
theorem bX11_improve_60 (B : Bd p s m args meth c cX11_improve 10 (wsOf yX11_improve cX11_improve 10 (some .int)) RX11 w (some .int) "improve") (hl : l.stackTraces = false) (ht : ∀ x ∈ c.exceptionTable.toList, False) {v0 : Nat} {v2 : Nat} {v3 : Int32} {v4 : Int32} {v5 : Int32} {v6 : Int32} {v7 : Int32} {k n : Nat} {px' : String → St → Prop} {Qc : Array Value → State → Outcome → State → Prop}  (kk : K p l e rX11_improve s m args below meth c 10 w k n (vx_MQ below Qc (XCs w px') args s rX11_improve.cells rX11_improve.slots (wA w)) S 66 [(0, .ref v0), (2, .ref v2), (3, .int v3), (4, .int v4), (5, .int v5), (6, .int v6), (7, .int v7), (8, .int (v7 + 1))] []) : K p l e rX11_improve s m args below meth c 10 w k n (vx_MQ below Qc (XCs w px') args s rX11_improve.cells rX11_improve.slots (wA w)) S 60 [(0, .ref v0), (2, .ref v2), (3, .int v3), (4, .int v4), (5, .int v5), (6, .int v6), (7, .int v7)] [] := by
  refine k_iload B 6 rfl dX11_improve_60 ?_
  refine k_iconst (v := 1) B (by decide) dX11_improve_62 ?_
  refine k_iadd B dX11_improve_63 ?_
  refine k_istore (lst' := [(8, .int (v7 + 1)), (0, .ref v0), (2, .ref v2), (3, .int v3), (4, .int v4), (5, .int v5), (6, .int v6), (7, .int v7)]) B (by decide) rfl dX11_improve_64 ?_
  refine k_sub [1, 2, 3, 4, 5, 6, 7, 0] rfl ?_
  exact kk
theorem bX11_improve_66 (B : Bd p s m args meth c cX11_improve 10 (wsOf yX11_improve cX11_improve 10 (some .int)) RX11 w (some .int) "improve") (hl : l.stackTraces = false) (ht : ∀ x ∈ c.exceptionTable.toList, False) {v0 : Nat} {v2 : Nat} {v3 : Int32} {v4 : Int32} {v5 : Int32} {v6 : Int32} {v7 : Int32} {v8 : Int32} {x1 : Nat} {k n : Nat} {px' : String → St → Prop} {Qc : Array Value → State → Outcome → State → Prop} (h1 : kd S v2 = 12) (h2 : gP S 708 v2 = some x1) (h3 : kd S x1 = 8) (kt : (gI S 449 x1) ≤ v8 → K p l e rX11_improve s m args below meth c 10 w k n (vx_MQ below Qc (XCs w px') args s rX11_improve.cells rX11_improve.slots (wA w)) S 156 [(0, .ref v0), (2, .ref v2), (3, .int v3), (4, .int v4), (5, .int v5), (6, .int v6), (7, .int v7)] []) (kf : ¬ (gI S 449 x1) ≤ v8 → K p l e rX11_improve s m args below meth c 10 w k n (vx_MQ below Qc (XCs w px') args s rX11_improve.cells rX11_improve.slots (wA w)) S 78 [(0, .ref v0), (2, .ref v2), (3, .int v3), (4, .int v4), (5, .int v5), (6, .int v6), (7, .int v7), (8, .int v8)] []) : K p l e rX11_improve s m args below meth c 10 w k n (vx_MQ below Qc (XCs w px') args s rX11_improve.cells rX11_improve.slots (wA w)) S 66 [(0, .ref v0), (2, .ref v2), (3, .int v3), (4, .int v4), (5, .int v5), (6, .int v6), (7, .int v7), (8, .int v8)] [] := by
  refine k_iload B 7 rfl dX11_improve_66 ?_
  refine k_aload_n B 1 rfl rfl dX11_improve_68 ?_
  refine k_getP (f := 708) (r := gP S 708 v2) B 11 4 rfl (by decide) rfl (by decide) rfl rfl (fun w h => in_of (uw_11 w h)) (in_of qfRX11_187) dX11_improve_69 h1 rfl ?_
  rw [h2]; change K _ _ _ _ _ _ _ _ _ _ _ _ _ _ _ _ _ _ (.ref x1 :: _)
  refine k_getI (f := 449) (v := gI S 449 x1) B 7 1 rfl (by decide) rfl (by decide) rfl rfl (fun w h => in_of (uw_7 w h)) (in_of qfRX11_246) dX11_improve_72 h3 rfl ?_
  refine k_icmp_ge (tgt := 156) B dX11_improve_75 (by decide) (fun c => ?_) (fun c => ?_)
  · refine k_sub [0, 1, 2, 3, 4, 5, 6] rfl ?_
    exact kt c
  · exact kf c
theorem bX11_improve_78 (B : Bd p s m args meth c cX11_improve 10 (wsOf yX11_improve cX11_improve 10 (some .int)) RX11 w (some .int) "improve") (hl : l.stackTraces = false) (ht : ∀ x ∈ c.exceptionTable.toList, False) {v0 : Nat} {v2 : Nat} {v3 : Int32} {v4 : Int32} {v5 : Int32} {v6 : Int32} {v7 : Int32} {v8 : Int32} {x1 : Nat} {x2 : Nat} {post : St → Prop} {k n : Nat} {px' : String → St → Prop} {Qc : Array Value → State → Outcome → State → Prop} (h1 : kd S v0 = 13) (h2 : gP S 776 v0 = some x1) (h3 : kd S v2 = 12) (h4 : gP S 708 v2 = some x2) (hc : ConV l yX6_copy (wsOf yX6_copy cX6_copy 3 none) rX6_copy w S [.ref x1, .ref x2] post) (h5 : k + 0 ≤ rX11_improve.cells) (h6 : n + 0 ≤ rX11_improve.slots) (h7 : kd S x1 = 8) (kk : ∀ (S' : St), post S' → K p l e rX11_improve s m args below meth c 10 w k n (vx_MQ below Qc (XCs w px') args s rX11_improve.cells rX11_improve.slots (wA w)) S' 89 [(0, .ref v0), (2, .ref v2), (3, .int v3), (4, .int v4), (5, .int v5), (6, .int v6), (7, .int v7), (8, .int v8)] []) : K p l e rX11_improve s m args below meth c 10 w k n (vx_MQ below Qc (XCs w px') args s rX11_improve.cells rX11_improve.slots (wA w)) S 78 [(0, .ref v0), (2, .ref v2), (3, .int v3), (4, .int v4), (5, .int v5), (6, .int v6), (7, .int v7), (8, .int v8)] [] := by
  refine k_aload_n B 0 rfl rfl dX11_improve_78 ?_
  refine k_getP (f := 776) (r := gP S 776 v0) B 12 8 rfl (by decide) rfl (by decide) rfl rfl (fun w h => in_of (uw_12 w h)) (in_of qfRX11_60) dX11_improve_79 h1 rfl ?_
  rw [h2]; change K _ _ _ _ _ _ _ _ _ _ _ _ _ _ _ _ _ _ (.ref x1 :: _)
  refine k_aload_n B 1 rfl rfl dX11_improve_82 ?_
  refine k_getP (f := 708) (r := gP S 708 v2) B 11 4 rfl (by decide) rfl (by decide) rfl rfl (fun w h => in_of (uw_11 w h)) (in_of qfRX11_187) dX11_improve_83 h3 rfl ?_
  rw [h4]; change K _ _ _ _ _ _ _ _ _ _ _ _ _ _ _ _ _ _ (.ref x2 :: _)
  refine callV_V (st := []) B [.ref x2] (hc) (cwV 1 B.1.2.2.2.2 (gV qlRX11_248 qiX6_copy qeX6_copy qzRX6 qcX6_copy) rfl rfl rfl (by decide +kernel) ⟨Nat.le_of_ble_eq_true rfl, Nat.le_of_ble_eq_true rfl⟩) rfl rfl (by decide) h7 (Nat.le_of_ble_eq_true rfl) rfl dX11_improve_86 ⟨h5, h6⟩ (fun S' hp => ?_)
  exact kk S' hp
theorem bX11_improve_89 (B : Bd p s m args meth c cX11_improve 10 (wsOf yX11_improve cX11_improve 10 (some .int)) RX11 w (some .int) "improve") (hl : l.stackTraces = false) (ht : ∀ x ∈ c.exceptionTable.toList, False) {v0 : Nat} {v2 : Nat} {v3 : Int32} {v4 : Int32} {v5 : Int32} {v6 : Int32} {v7 : Int32} {v8 : Int32} {x1 : Nat} {post : St → Prop} {k n : Nat} {px' : String → St → Prop} {Qc : Array Value → State → Outcome → State → Prop} (h1 : kd S v0 = 13) (h2 : gP S 776 v0 = some x1) (hc : ConV l yX6_turn (wsOf yX6_turn cX6_turn 6 none) rX6_turn w S [.ref x1, .int v7, .int v8] post) (h3 : k + 0 ≤ rX11_improve.cells) (h4 : n + 0 ≤ rX11_improve.slots) (h5 : kd S x1 = 8) (kk : ∀ (S' : St), post S' → K p l e rX11_improve s m args below meth c 10 w k n (vx_MQ below Qc (XCs w px') args s rX11_improve.cells rX11_improve.slots (wA w)) S' 100 [(0, .ref v0), (2, .ref v2), (3, .int v3), (4, .int v4), (5, .int v5), (6, .int v6), (7, .int v7), (8, .int v8)] []) : K p l e rX11_improve s m args below meth c 10 w k n (vx_MQ below Qc (XCs w px') args s rX11_improve.cells rX11_improve.slots (wA w)) S 89 [(0, .ref v0), (2, .ref v2), (3, .int v3), (4, .int v4), (5, .int v5), (6, .int v6), (7, .int v7), (8, .int v8)] [] := by
  refine k_aload_n B 0 rfl rfl dX11_improve_89 ?_
  refine k_getP (f := 776) (r := gP S 776 v0) B 12 8 rfl (by decide) rfl (by decide) rfl rfl (fun w h => in_of (uw_12 w h)) (in_of qfRX11_60) dX11_improve_90 h1 rfl ?_
  rw [h2]; change K _ _ _ _ _ _ _ _ _ _ _ _ _ _ _ _ _ _ (.ref x1 :: _)
  refine k_iload B 6 rfl dX11_improve_93 ?_
  refine k_iload B 7 rfl dX11_improve_95 ?_
  refine callV_V (st := []) B [.int v7, .int v8] (hc) (cwV 2 B.1.2.2.2.2 (gV qlRX11_252 qiX6_turn qeX6_turn qzRX6 qcX6_turn) rfl rfl rfl (by decide +kernel) ⟨Nat.le_of_ble_eq_true rfl, Nat.le_of_ble_eq_true rfl⟩) rfl rfl (by decide) h5 (Nat.le_of_ble_eq_true rfl) rfl dX11_improve_97 ⟨h3, h4⟩ (fun S' hp => ?_)
  exact kk S' hp
theorem bX11_improve_100 (B : Bd p s m args meth c cX11_improve 10 (wsOf yX11_improve cX11_improve 10 (some .int)) RX11 w (some .int) "improve") (hl : l.stackTraces = false) (ht : ∀ x ∈ c.exceptionTable.toList, False) {v0 : Nat} {v2 : Nat} {v3 : Int32} {v4 : Int32} {v5 : Int32} {v6 : Int32} {v7 : Int32} {v8 : Int32} {x1 : Nat} {post : Int32 → St → Prop} {k n : Nat} {px' : String → St → Prop} {Qc : Array Value → State → Outcome → State → Prop} (h1 : kd S v0 = 13) (h2 : gP S 776 v0 = some x1) (h3 : kd S v2 = 12) (hc : ConI l yX6_fits (wsOf yX6_fits cX6_fits 2 (some .boolean)) rX6_fits w S [.ref x1, .int (gI S 705 v2)] post) (h4 : k + 0 ≤ rX11_improve.cells) (h5 : n + 0 ≤ rX11_improve.slots) (h6 : kd S x1 = 8) (kk : ∀ (r : Int32) (S' : St), post r S' → K p l e rX11_improve s m args below meth c 10 w k n (vx_MQ below Qc (XCs w px') args s rX11_improve.cells rX11_improve.slots (wA w)) S' 111 [(0, .ref v0), (2, .ref v2), (3, .int v3), (4, .int v4), (5, .int v5), (6, .int v6), (7, .int v7), (8, .int v8)] [.int r]) : K p l e rX11_improve s m args below meth c 10 w k n (vx_MQ below Qc (XCs w px') args s rX11_improve.cells rX11_improve.slots (wA w)) S 100 [(0, .ref v0), (2, .ref v2), (3, .int v3), (4, .int v4), (5, .int v5), (6, .int v6), (7, .int v7), (8, .int v8)] [] := by
  refine k_aload_n B 0 rfl rfl dX11_improve_100 ?_
  refine k_getP (f := 776) (r := gP S 776 v0) B 12 8 rfl (by decide) rfl (by decide) rfl rfl (fun w h => in_of (uw_12 w h)) (in_of qfRX11_60) dX11_improve_101 h1 rfl ?_
  rw [h2]; change K _ _ _ _ _ _ _ _ _ _ _ _ _ _ _ _ _ _ (.ref x1 :: _)
  refine k_aload_n B 1 rfl rfl dX11_improve_104 ?_
  refine k_getI (f := 705) (v := gI S 705 v2) B 11 1 rfl (by decide) rfl (by decide) rfl rfl (fun w h => in_of (uw_11 w h)) (in_of qfRX11_255) dX11_improve_105 h3 rfl ?_
  refine callV_I (st := []) B [.int (gI S 705 v2)] (hc) (cwV 1 B.1.2.2.2.2 (gV qlRX11_258 qiX6_fits qeX6_fits qzRX6 qcX6_fits) rfl rfl rfl (by decide +kernel) ⟨Nat.le_of_ble_eq_true rfl, Nat.le_of_ble_eq_true rfl⟩) rfl rfl (by decide) h6 (Nat.le_of_ble_eq_true rfl) rfl dX11_improve_108 ⟨h4, h5⟩ (fun r S' hp => ?_)
  exact kk r S' hp
theorem bX11_improve_111 (B : Bd p s m args meth c cX11_improve 10 (wsOf yX11_improve cX11_improve 10 (some .int)) RX11 w (some .int) "improve") (hl : l.stackTraces = false) (ht : ∀ x ∈ c.exceptionTable.toList, False) {v0 : Nat} {v2 : Nat} {v3 : Int32} {v4 : Int32} {v5 : Int32} {v6 : Int32} {v7 : Int32} {v8 : Int32} {t0 : Int32} {k n : Nat} {px' : String → St → Prop} {Qc : Array Value → State → Outcome → State → Prop}  (kt : ¬ t0 = 0 → K p l e rX11_improve s m args below meth c 10 w k n (vx_MQ below Qc (XCs w px') args s rX11_improve.cells rX11_improve.slots (wA w)) S 117 [(0, .ref v0), (2, .ref v2), (3, .int v3), (4, .int v4), (5, .int v5), (6, .int v6), (7, .int v7), (8, .int v8)] []) (kf : t0 = 0 → K p l e rX11_improve s m args below meth c 10 w k n (vx_MQ below Qc (XCs w px') args s rX11_improve.cells rX11_improve.slots (wA w)) S 114 [(0, .ref v0), (2, .ref v2), (3, .int v3), (4, .int v4), (5, .int v5), (6, .int v6), (7, .int v7), (8, .int v8)] []) : K p l e rX11_improve s m args below meth c 10 w k n (vx_MQ below Qc (XCs w px') args s rX11_improve.cells rX11_improve.slots (wA w)) S 111 [(0, .ref v0), (2, .ref v2), (3, .int v3), (4, .int v4), (5, .int v5), (6, .int v6), (7, .int v7), (8, .int v8)] [.int t0] := by
  refine k_if_ne (tgt := 117) B dX11_improve_111 (by decide) (fun c => ?_) (fun c => ?_)
  · exact kt c
  · exact kf c
theorem bX11_improve_114 (B : Bd p s m args meth c cX11_improve 10 (wsOf yX11_improve cX11_improve 10 (some .int)) RX11 w (some .int) "improve") (hl : l.stackTraces = false) (ht : ∀ x ∈ c.exceptionTable.toList, False) {v0 : Nat} {v2 : Nat} {v3 : Int32} {v4 : Int32} {v5 : Int32} {v6 : Int32} {v7 : Int32} {v8 : Int32} {k n : Nat} {px' : String → St → Prop} {Qc : Array Value → State → Outcome → State → Prop}  (kk : K p l e rX11_improve s m args below meth c 10 w k n (vx_MQ below Qc (XCs w px') args s rX11_improve.cells rX11_improve.slots (wA w)) S 150 [(0, .ref v0), (2, .ref v2), (3, .int v3), (4, .int v4), (5, .int v5), (6, .int v6), (7, .int v7), (8, .int v8)] []) : K p l e rX11_improve s m args below meth c 10 w k n (vx_MQ below Qc (XCs w px') args s rX11_improve.cells rX11_improve.slots (wA w)) S 114 [(0, .ref v0), (2, .ref v2), (3, .int v3), (4, .int v4), (5, .int v5), (6, .int v6), (7, .int v7), (8, .int v8)] [] := by
  refine k_goto (tgt := 150) B dX11_improve_114 (by decide) ?_
  exact kk
theorem bX11_improve_117 (B : Bd p s m args meth c cX11_improve 10 (wsOf yX11_improve cX11_improve 10 (some .int)) RX11 w (some .int) "improve") (hl : l.stackTraces = false) (ht : ∀ x ∈ c.exceptionTable.toList, False) {v0 : Nat} {v2 : Nat} {v3 : Int32} {v4 : Int32} {v5 : Int32} {v6 : Int32} {v7 : Int32} {v8 : Int32} {x1 : Nat} {x2 : Nat} {post : Int32 → St → Prop} {k n : Nat} {px' : String → St → Prop} {Qc : Array Value → State → Outcome → State → Prop} (h1 : kd S v0 = 13) (h2 : gP S 773 v0 = some x1) (h3 : gP S 776 v0 = some x2) (hc : ConI l yX7_follow (wsOf yX7_follow cX7_follow 6 (some .int)) rX7_follow w S [.ref x1, .ref v2, .ref x2] post) (h4 : k + 0 ≤ rX11_improve.cells) (h5 : n + 0 ≤ rX11_improve.slots) (h6 : kd S x1 = 9) (kk : ∀ (r : Int32) (S' : St), post r S' → K p l e rX11_improve s m args below meth c 10 w k n (vx_MQ below Qc (XCs w px') args s rX11_improve.cells rX11_improve.slots (wA w)) S' 129 [(0, .ref v0), (2, .ref v2), (3, .int v3), (4, .int v4), (5, .int v5), (6, .int v6), (7, .int v7), (8, .int v8)] [.int r]) : K p l e rX11_improve s m args below meth c 10 w k n (vx_MQ below Qc (XCs w px') args s rX11_improve.cells rX11_improve.slots (wA w)) S 117 [(0, .ref v0), (2, .ref v2), (3, .int v3), (4, .int v4), (5, .int v5), (6, .int v6), (7, .int v7), (8, .int v8)] [] := by
  refine k_aload_n B 0 rfl rfl dX11_improve_117 ?_
  refine k_getP (f := 773) (r := gP S 773 v0) B 12 5 rfl (by decide) rfl (by decide) rfl rfl (fun w h => in_of (uw_12 w h)) (in_of qfRX11_37) dX11_improve_118 h1 rfl ?_
  rw [h2]; change K _ _ _ _ _ _ _ _ _ _ _ _ _ _ _ _ _ _ (.ref x1 :: _)
  refine k_aload_n B 1 rfl rfl dX11_improve_121 ?_
  refine k_aload_n B 0 rfl rfl dX11_improve_122 ?_
  refine k_getP (f := 776) (r := gP S 776 v0) B 12 8 rfl (by decide) rfl (by decide) rfl rfl (fun w h => in_of (uw_12 w h)) (in_of qfRX11_60) dX11_improve_123 h1 rfl ?_
  rw [h3]; change K _ _ _ _ _ _ _ _ _ _ _ _ _ _ _ _ _ _ (.ref x2 :: _)
  refine callV_I (st := []) B [.ref v2, .ref x2] (hc) (cwV 2 B.1.2.2.2.2 (gV qlRX11_190 qiX7_follow qeX7_follow qzRX7 qcX7_follow) rfl rfl rfl (by decide +kernel) ⟨Nat.le_of_ble_eq_true rfl, Nat.le_of_ble_eq_true rfl⟩) rfl rfl (by decide) h6 (Nat.le_of_ble_eq_true rfl) rfl dX11_improve_126 ⟨h4, h5⟩ (fun r S' hp => ?_)
  exact kk r S' hp
theorem bX11_improve_129 (B : Bd p s m args meth c cX11_improve 10 (wsOf yX11_improve cX11_improve 10 (some .int)) RX11 w (some .int) "improve") (hl : l.stackTraces = false) (ht : ∀ x ∈ c.exceptionTable.toList, False) {v0 : Nat} {v2 : Nat} {v3 : Int32} {v4 : Int32} {v5 : Int32} {v6 : Int32} {v7 : Int32} {v8 : Int32} {t0 : Int32} {k n : Nat} {px' : String → St → Prop} {Qc : Array Value → State → Outcome → State → Prop}  (kt : v4 ≤ t0 → K p l e rX11_improve s m args below meth c 10 w k n (vx_MQ below Qc (XCs w px') args s rX11_improve.cells rX11_improve.slots (wA w)) S 150 [(0, .ref v0), (2, .ref v2), (3, .int v3), (4, .int v4), (5, .int v5), (6, .int v6), (7, .int v7), (8, .int v8)] []) (kf : ¬ v4 ≤ t0 → K p l e rX11_improve s m args below meth c 10 w k n (vx_MQ below Qc (XCs w px') args s rX11_improve.cells rX11_improve.slots (wA w)) S 138 [(0, .ref v0), (2, .ref v2), (3, .int v3), (7, .int v7), (8, .int v8), (9, .int t0)] []) : K p l e rX11_improve s m args below meth c 10 w k n (vx_MQ below Qc (XCs w px') args s rX11_improve.cells rX11_improve.slots (wA w)) S 129 [(0, .ref v0), (2, .ref v2), (3, .int v3), (4, .int v4), (5, .int v5), (6, .int v6), (7, .int v7), (8, .int v8)] [.int t0] := by
  refine k_istore (lst' := [(9, .int t0), (0, .ref v0), (2, .ref v2), (3, .int v3), (4, .int v4), (5, .int v5), (6, .int v6), (7, .int v7), (8, .int v8)]) B (by decide) rfl dX11_improve_129 ?_
  refine k_iload B 0 rfl dX11_improve_131 ?_
  refine k_iload B 4 rfl dX11_improve_133 ?_
  refine k_icmp_ge (tgt := 150) B dX11_improve_135 (by decide) (fun c => ?_) (fun c => ?_)
  · refine k_sub [1, 2, 3, 4, 5, 6, 7, 8] rfl ?_
    exact kt c
  · refine k_sub [1, 2, 3, 7, 8, 0] rfl ?_
    exact kf c
theorem bX11_improve_138 (B : Bd p s m args meth c cX11_improve 10 (wsOf yX11_improve cX11_improve 10 (some .int)) RX11 w (some .int) "improve") (hl : l.stackTraces = false) (ht : ∀ x ∈ c.exceptionTable.toList, False) {v0 : Nat} {v2 : Nat} {v3 : Int32} {v7 : Int32} {v8 : Int32} {v9 : Int32} {k n : Nat} {px' : String → St → Prop} {Qc : Array Value → State → Outcome → State → Prop}  (kk : K p l e rX11_improve s m args below meth c 10 w k n (vx_MQ below Qc (XCs w px') args s rX11_improve.cells rX11_improve.slots (wA w)) S 150 [(0, .ref v0), (2, .ref v2), (3, .int v3), (4, .int v9), (5, .int v7), (6, .int v8), (7, .int v7), (8, .int v8)] []) : K p l e rX11_improve s m args below meth c 10 w k n (vx_MQ below Qc (XCs w px') args s rX11_improve.cells rX11_improve.slots (wA w)) S 138 [(0, .ref v0), (2, .ref v2), (3, .int v3), (7, .int v7), (8, .int v8), (9, .int v9)] [] := by
  refine k_iload B 5 rfl dX11_improve_138 ?_
  refine k_istore (lst' := [(4, .int v9), (0, .ref v0), (2, .ref v2), (3, .int v3), (7, .int v7), (8, .int v8), (9, .int v9)]) B (by decide) rfl dX11_improve_140 ?_
  refine k_iload B 4 rfl dX11_improve_142 ?_
  refine k_istore (lst' := [(5, .int v7), (4, .int v9), (0, .ref v0), (2, .ref v2), (3, .int v3), (7, .int v7), (8, .int v8), (9, .int v9)]) B (by decide) rfl dX11_improve_144 ?_
  refine k_iload B 6 rfl dX11_improve_146 ?_
  refine k_istore (lst' := [(6, .int v8), (5, .int v7), (4, .int v9), (0, .ref v0), (2, .ref v2), (3, .int v3), (7, .int v7), (8, .int v8), (9, .int v9)]) B (by decide) rfl dX11_improve_148 ?_
  refine k_sub [3, 4, 5, 2, 1, 0, 6, 7] rfl ?_
  exact kk
theorem bX11_improve_150 (B : Bd p s m args meth c cX11_improve 10 (wsOf yX11_improve cX11_improve 10 (some .int)) RX11 w (some .int) "improve") (hl : l.stackTraces = false) (ht : ∀ x ∈ c.exceptionTable.toList, False) {v0 : Nat} {v2 : Nat} {v3 : Int32} {v4 : Int32} {v5 : Int32} {v6 : Int32} {v7 : Int32} {v8 : Int32} {k n : Nat} {px' : String → St → Prop} {Qc : Array Value → State → Outcome → State → Prop}  (kk : K p l e rX11_improve s m args below meth c 10 w k n (vx_MQ below Qc (XCs w px') args s rX11_improve.cells rX11_improve.slots (wA w)) S 66 [(0, .ref v0), (2, .ref v2), (3, .int v3), (4, .int v4), (5, .int v5), (6, .int v6), (7, .int v7), (8, .int (v8 + 1))] []) : K p l e rX11_improve s m args below meth c 10 w k n (vx_MQ below Qc (XCs w px') args s rX11_improve.cells rX11_improve.slots (wA w)) S 150 [(0, .ref v0), (2, .ref v2), (3, .int v3), (4, .int v4), (5, .int v5), (6, .int v6), (7, .int v7), (8, .int v8)] [] := by
  refine k_iinc (v := v8 + 1) (lst' := [(8, .int (v8 + 1)), (0, .ref v0), (2, .ref v2), (3, .int v3), (4, .int v4), (5, .int v5), (6, .int v6), (7, .int v7)]) B 7 rfl rfl (by decide) rfl dX11_improve_150 ?_
  refine k_goto (tgt := 66) B dX11_improve_153 (by decide) ?_
  refine k_sub [1, 2, 3, 4, 5, 6, 7, 0] rfl ?_
  exact kk
theorem bX11_improve_156 (B : Bd p s m args meth c cX11_improve 10 (wsOf yX11_improve cX11_improve 10 (some .int)) RX11 w (some .int) "improve") (hl : l.stackTraces = false) (ht : ∀ x ∈ c.exceptionTable.toList, False) {v0 : Nat} {v2 : Nat} {v3 : Int32} {v4 : Int32} {v5 : Int32} {v6 : Int32} {v7 : Int32} {k n : Nat} {px' : String → St → Prop} {Qc : Array Value → State → Outcome → State → Prop}  (kk : K p l e rX11_improve s m args below meth c 10 w k n (vx_MQ below Qc (XCs w px') args s rX11_improve.cells rX11_improve.slots (wA w)) S 48 [(0, .ref v0), (2, .ref v2), (3, .int v3), (4, .int v4), (5, .int v5), (6, .int v6), (7, .int (v7 + 1))] []) : K p l e rX11_improve s m args below meth c 10 w k n (vx_MQ below Qc (XCs w px') args s rX11_improve.cells rX11_improve.slots (wA w)) S 156 [(0, .ref v0), (2, .ref v2), (3, .int v3), (4, .int v4), (5, .int v5), (6, .int v6), (7, .int v7)] [] := by
  refine k_iinc (v := v7 + 1) (lst' := [(7, .int (v7 + 1)), (0, .ref v0), (2, .ref v2), (3, .int v3), (4, .int v4), (5, .int v5), (6, .int v6)]) B 6 rfl rfl (by decide) rfl dX11_improve_156 ?_
  refine k_goto (tgt := 48) B dX11_improve_159 (by decide) ?_
  refine k_sub [1, 2, 3, 4, 5, 6, 0] rfl ?_
  exact kk
theorem bX11_improve_162 (B : Bd p s m args meth c cX11_improve 10 (wsOf yX11_improve cX11_improve 10 (some .int)) RX11 w (some .int) "improve") (hl : l.stackTraces = false) (ht : ∀ x ∈ c.exceptionTable.toList, False) {v2 : Nat} {v3 : Int32} {v4 : Int32} {v5 : Int32} {v6 : Int32} {x1 : Nat} {post : St → Prop} {k n : Nat} {px' : String → St → Prop} {Qc : Array Value → State → Outcome → State → Prop} (h1 : kd S v2 = 12) (h2 : gP S 708 v2 = some x1) (hc : ConV l yX6_turn (wsOf yX6_turn cX6_turn 6 none) rX6_turn w S [.ref x1, .int v5, .int v6] post) (h3 : k + 0 ≤ rX11_improve.cells) (h4 : n + 0 ≤ rX11_improve.slots) (h5 : kd S x1 = 8) (kk : ∀ (S' : St), post S' → K p l e rX11_improve s m args below meth c 10 w k n (vx_MQ below Qc (XCs w px') args s rX11_improve.cells rX11_improve.slots (wA w)) S' 173 [(3, .int v3), (4, .int v4)] []) : K p l e rX11_improve s m args below meth c 10 w k n (vx_MQ below Qc (XCs w px') args s rX11_improve.cells rX11_improve.slots (wA w)) S 162 [(2, .ref v2), (3, .int v3), (4, .int v4), (5, .int v5), (6, .int v6)] [] := by
  refine k_aload_n B 0 rfl rfl dX11_improve_162 ?_
  refine k_getP (f := 708) (r := gP S 708 v2) B 11 4 rfl (by decide) rfl (by decide) rfl rfl (fun w h => in_of (uw_11 w h)) (in_of qfRX11_187) dX11_improve_163 h1 rfl ?_
  rw [h2]; change K _ _ _ _ _ _ _ _ _ _ _ _ _ _ _ _ _ _ (.ref x1 :: _)
  refine k_iload B 3 rfl dX11_improve_166 ?_
  refine k_iload B 4 rfl dX11_improve_168 ?_
  refine callV_V (st := []) B [.int v5, .int v6] (hc) (cwV 2 B.1.2.2.2.2 (gV qlRX11_252 qiX6_turn qeX6_turn qzRX6 qcX6_turn) rfl rfl rfl (by decide +kernel) ⟨Nat.le_of_ble_eq_true rfl, Nat.le_of_ble_eq_true rfl⟩) rfl rfl (by decide) h5 (Nat.le_of_ble_eq_true rfl) rfl dX11_improve_170 ⟨h3, h4⟩ (fun S' hp => ?_)
  refine k_sub [1, 2] rfl ?_
  exact kk S' hp
theorem bX11_improve_173 (B : Bd p s m args meth c cX11_improve 10 (wsOf yX11_improve cX11_improve 10 (some .int)) RX11 w (some .int) "improve") (hl : l.stackTraces = false) (ht : ∀ x ∈ c.exceptionTable.toList, False) {v3 : Int32} {v4 : Int32} {post : Int32 → St → Prop} {k n : Nat} {px' : String → St → Prop} (h1 : k ≤ rX11_improve.cells) (h2 : n ≤ rX11_improve.slots) (hq : post (v3 - v4) S) : K p l e rX11_improve s m args below meth c 10 w k n (vx_MQ below (va_Qi post (fun S' t => Hd w S' t.heap) (wA w)) (XCs w px') args s rX11_improve.cells rX11_improve.slots (wA w)) S 173 [(3, .int v3), (4, .int v4)] [] := by
  refine k_iload_n B 0 rfl rfl dX11_improve_173 ?_
  refine k_iload B 1 rfl dX11_improve_174 ?_
  refine k_isub B dX11_improve_176 ?_
  exact k_xret_I h1 h2 (ret_I B rfl dX11_improve_177 (hq))
theorem bX11_move_0 (B : Bd p s m args meth c cX11_move 2 (wsOf yX11_move cX11_move 2 (some .int)) RX11 w (some .int) "move") {v0 : Nat} {x1 : Nat} {post : St → Prop} {Q : State → Prop} (h1 : kd S v0 = 13) (h2 : gP S 775 v0 = some x1) (hc : ConV l yX0_forget (wsOf yX0_forget cX0_forget 1 none) rX0_forget w S [.ref x1] post) (h3 : kd S x1 = 2) (kk : ∀ (S' : St), post S' → K p l e rX11_move s m args below meth c 2 w 0 0 Q S' 7 [(0, .ref v0)] []) : K p l e rX11_move s m args below meth c 2 w 0 0 Q S 0 [(0, .ref v0)] [] := by
  refine k_aload_n B 0 rfl rfl dX11_move_0 ?_
  refine k_getP (f := 775) (r := gP S 775 v0) B 12 7 rfl (by decide) rfl (by decide) rfl rfl (fun w h => in_of (uw_12 w h)) (in_of qfRX11_53) dX11_move_1 h1 rfl ?_
  rw [h2]; change K _ _ _ _ _ _ _ _ _ _ _ _ _ _ _ _ _ _ (.ref x1 :: _)
  refine callV_V (st := []) B [] (hc) (cwV 0 B.1.2.2.2.2 (gV qlRX11_229 qiX0_forget qeX0_forget qzRX0 qcX0_forget) rfl rfl rfl (by decide +kernel) ⟨Nat.le_of_ble_eq_true rfl, Nat.le_of_ble_eq_true rfl⟩) rfl rfl (by decide) h3 (Nat.le_of_ble_eq_true rfl) rfl dX11_move_4 ⟨Nat.le_of_ble_eq_true rfl, Nat.le_of_ble_eq_true rfl⟩ (fun S' hp => ?_)
  exact kk S' hp
theorem bX11_move_7 (B : Bd p s m args meth c cX11_move 2 (wsOf yX11_move cX11_move 2 (some .int)) RX11 w (some .int) "move") {v0 : Nat} {Q : State → Prop}  (kk : K p l e rX11_move s m args below meth c 2 w 0 0 Q S 9 [(0, .ref v0), (1, .int 0)] []) : K p l e rX11_move s m args below meth c 2 w 0 0 Q S 7 [(0, .ref v0)] [] := by
  refine k_iconst (v := 0) B (by decide) dX11_move_7 ?_
  refine k_istore_n (lst' := [(1, .int 0), (0, .ref v0)]) B rfl (by decide) rfl dX11_move_8 ?_
  refine k_sub [1, 0] rfl ?_
  exact kk
theorem bX11_move_9 (B : Bd p s m args meth c cX11_move 2 (wsOf yX11_move cX11_move 2 (some .int)) RX11 w (some .int) "move") {v0 : Nat} {v1 : Int32} {x1 : Nat} {post : Int32 → St → Prop} {Q : State → Prop} (h1 : kd S v0 = 13) (h2 : gP S 772 v0 = some x1) (hc : ConI l yJx4a65c_size_8abf5 (wsOf yJx4a65c_size_8abf5 cJx4a65c_size_8abf5 1 (some .int)) rJx4a65c_size_8abf5 w S [.ref x1] post) (h3 : kd S x1 = 1) (kk : ∀ (r : Int32) (S' : St), post r S' → K p l e rX11_move s m args below meth c 2 w 0 0 Q S' 17 [(0, .ref v0), (1, .int v1)] [.int r, .int v1]) : K p l e rX11_move s m args below meth c 2 w 0 0 Q S 9 [(0, .ref v0), (1, .int v1)] [] := by
  refine k_iload_n B 1 rfl rfl dX11_move_9 ?_
  refine k_aload_n B 0 rfl rfl dX11_move_10 ?_
  refine k_getP (f := 772) (r := gP S 772 v0) B 12 4 rfl (by decide) rfl (by decide) rfl rfl (fun w h => in_of (uw_12 w h)) (in_of qfRX11_29) dX11_move_11 h1 rfl ?_
  rw [h2]; change K _ _ _ _ _ _ _ _ _ _ _ _ _ _ _ _ _ _ (.ref x1 :: _)
  refine callV_I (st := [.int v1]) B [] (hc) (cwV 0 B.1.2.2.2.2 (gV qlRX11_101 qiJx4a65c_size_8abf5 qeJx4a65c_size_8abf5 qzRJx4a65c qcJx4a65c_size_8abf5) rfl rfl rfl (by decide +kernel) ⟨Nat.le_of_ble_eq_true rfl, Nat.le_of_ble_eq_true rfl⟩) rfl rfl (by decide) h3 (Nat.le_of_ble_eq_true rfl) rfl dX11_move_14 ⟨Nat.le_of_ble_eq_true rfl, Nat.le_of_ble_eq_true rfl⟩ (fun r S' hp => ?_)
  exact kk r S' hp
theorem bX11_move_17 (B : Bd p s m args meth c cX11_move 2 (wsOf yX11_move cX11_move 2 (some .int)) RX11 w (some .int) "move") {v0 : Nat} {v1 : Int32} {t0 : Int32} {t1 : Int32} {Q : State → Prop}  (kt : t1 ≤ t0 → K p l e rX11_move s m args below meth c 2 w 0 0 Q S 41 [(0, .ref v0)] []) (kf : ¬ t1 ≤ t0 → K p l e rX11_move s m args below meth c 2 w 0 0 Q S 20 [(0, .ref v0), (1, .int v1)] []) : K p l e rX11_move s m args below meth c 2 w 0 0 Q S 17 [(0, .ref v0), (1, .int v1)] [.int t1, .int t0] := by
  refine k_icmp_ge (tgt := 41) B dX11_move_17 (by decide) (fun c => ?_) (fun c => ?_)
  · refine k_sub [0] rfl ?_
    exact kt c
  · exact kf c
theorem bX11_move_20 (B : Bd p s m args meth c cX11_move 2 (wsOf yX11_move cX11_move 2 (some .int)) RX11 w (some .int) "move") {v0 : Nat} {v1 : Int32} {x1 : Nat} {post : Nat → St → Prop} {Q : State → Prop} (h1 : kd S v0 = 13) (h2 : gP S 772 v0 = some x1) (hc : ConR l yJx4a65c_get_915e3 (wsOf yJx4a65c_get_915e3 cJx4a65c_get_915e3 2 (some (.object "java/lang/Object"))) rJx4a65c_get_915e3 w S [.ref x1, .int v1] post) (h3 : kd S x1 = 1) (kk : ∀ (r : Nat) (S' : St), post r S' → K p l e rX11_move s m args below meth c 2 w 0 0 Q S' 29 [(0, .ref v0), (1, .int v1)] [.ref r, .ref v0]) : K p l e rX11_move s m args below meth c 2 w 0 0 Q S 20 [(0, .ref v0), (1, .int v1)] [] := by
  refine k_aload_n B 0 rfl rfl dX11_move_20 ?_
  refine k_aload_n B 0 rfl rfl dX11_move_21 ?_
  refine k_getP (f := 772) (r := gP S 772 v0) B 12 4 rfl (by decide) rfl (by decide) rfl rfl (fun w h => in_of (uw_12 w h)) (in_of qfRX11_29) dX11_move_22 h1 rfl ?_
  rw [h2]; change K _ _ _ _ _ _ _ _ _ _ _ _ _ _ _ _ _ _ (.ref x1 :: _)
  refine k_iload_n B 1 rfl rfl dX11_move_25 ?_
  refine callV_R (st := [.ref v0]) B [.int v1] (hc) (cwV 1 B.1.2.2.2.2 (gV qlRX11_124 qiJx4a65c_get_915e3 qeJx4a65c_get_915e3 qzRJx4a65c qcJx4a65c_get_915e3) rfl rfl rfl (by decide +kernel) ⟨Nat.le_of_ble_eq_true rfl, Nat.le_of_ble_eq_true rfl⟩) rfl rfl (by decide) h3 (Nat.le_of_ble_eq_true rfl) rfl dX11_move_26 ⟨Nat.le_of_ble_eq_true rfl, Nat.le_of_ble_eq_true rfl⟩ (fun r S' hp => ?_)
  exact kk r S' hp
theorem bX11_move_29 (B : Bd p s m args meth c cX11_move 2 (wsOf yX11_move cX11_move 2 (some .int)) RX11 w (some .int) "move") {v0 : Nat} {v1 : Int32} {t0 : Nat} {t1 : Nat} {post : St → Prop} {Q : State → Prop} (h1 : kd S t1 = 5) (hc : ConV l yX11_weighMoving (wsOf yX11_weighMoving cX11_weighMoving 6 none) rX11_weighMoving w S [.ref t0, .ref t1] post) (h2 : kd S t0 = 13) (kk : ∀ (S' : St), post S' → K p l e rX11_move s m args below meth c 2 w 0 0 Q S' 35 [(0, .ref v0), (1, .int v1)] []) : K p l e rX11_move s m args below meth c 2 w 0 0 Q S 29 [(0, .ref v0), (1, .int v1)] [.ref t1, .ref t0] := by
  refine k_cast B 4 rfl (by decide) (in_of qkRX11_144) dX11_move_29 h1 ?_
  refine callV_V (st := []) B [.ref t1] (hc) (cwV 1 B.1.2.2.2.2 (gV qlRX11_261 qiX11_weighMoving qeX11_weighMoving qzRX11 qcX11_weighMoving) rfl rfl rfl (by decide +kernel) ⟨Nat.le_of_ble_eq_true rfl, Nat.le_of_ble_eq_true rfl⟩) rfl rfl (by decide) h2 (Nat.le_of_ble_eq_true rfl) rfl dX11_move_32 ⟨Nat.le_of_ble_eq_true rfl, Nat.le_of_ble_eq_true rfl⟩ (fun S' hp => ?_)
  exact kk S' hp
theorem bX11_move_35 (B : Bd p s m args meth c cX11_move 2 (wsOf yX11_move cX11_move 2 (some .int)) RX11 w (some .int) "move") {v0 : Nat} {v1 : Int32} {Q : State → Prop}  (kk : K p l e rX11_move s m args below meth c 2 w 0 0 Q S 9 [(0, .ref v0), (1, .int (v1 + 1))] []) : K p l e rX11_move s m args below meth c 2 w 0 0 Q S 35 [(0, .ref v0), (1, .int v1)] [] := by
  refine k_iinc (v := v1 + 1) (lst' := [(1, .int (v1 + 1)), (0, .ref v0)]) B 1 rfl rfl (by decide) rfl dX11_move_35 ?_
  refine k_goto (tgt := 9) B dX11_move_38 (by decide) ?_
  refine k_sub [1, 0] rfl ?_
  exact kk
theorem bX11_move_41 (B : Bd p s m args meth c cX11_move 2 (wsOf yX11_move cX11_move 2 (some .int)) RX11 w (some .int) "move") {v0 : Nat} {x1 : Nat} {Q : State → Prop} (h1 : kd S v0 = 13) (h2 : gP S 775 v0 = some x1) (h3 : kd S x1 = 2) (kt : gP S 66 x1 = none → K p l e rX11_move s m args below meth c 2 w 0 0 Q S 61 [] []) (kf : ∀ x, gP S 66 x1 = some x → K p l e rX11_move s m args below meth c 2 w 0 0 Q S 51 [(0, .ref v0)] []) : K p l e rX11_move s m args below meth c 2 w 0 0 Q S 41 [(0, .ref v0)] [] := by
  refine k_aload_n B 0 rfl rfl dX11_move_41 ?_
  refine k_getP (f := 775) (r := gP S 775 v0) B 12 7 rfl (by decide) rfl (by decide) rfl rfl (fun w h => in_of (uw_12 w h)) (in_of qfRX11_53) dX11_move_42 h1 rfl ?_
  rw [h2]; change K _ _ _ _ _ _ _ _ _ _ _ _ _ _ _ _ _ _ (.ref x1 :: _)
  refine k_getP (f := 66) (r := gP S 66 x1) B 1 2 rfl (by decide) rfl (by decide) rfl rfl (fun w h => in_of (uw_1 w h)) (in_of qfRX11_235) dX11_move_45 h3 rfl ?_
  refine k_ifnull (r := gP S 66 x1) (tgt := 61) B dX11_move_48 (by decide) (fun c => ?_) (fun x c => ?_)
  · refine k_sub [] rfl ?_
    exact kt c
  · exact kf x c
theorem bX11_move_51 (B : Bd p s m args meth c cX11_move 2 (wsOf yX11_move cX11_move 2 (some .int)) RX11 w (some .int) "move") {v0 : Nat} {x1 : Nat} {Q : State → Prop} (h1 : kd S v0 = 13) (h2 : gP S 775 v0 = some x1) (h3 : kd S x1 = 2) (kt : (gI S 64 x1) < 0 → K p l e rX11_move s m args below meth c 2 w 0 0 Q S 63 [(0, .ref v0)] []) (kf : ¬ (gI S 64 x1) < 0 → K p l e rX11_move s m args below meth c 2 w 0 0 Q S 61 [] []) : K p l e rX11_move s m args below meth c 2 w 0 0 Q S 51 [(0, .ref v0)] [] := by
  refine k_aload_n B 0 rfl rfl dX11_move_51 ?_
  refine k_getP (f := 775) (r := gP S 775 v0) B 12 7 rfl (by decide) rfl (by decide) rfl rfl (fun w h => in_of (uw_12 w h)) (in_of qfRX11_53) dX11_move_52 h1 rfl ?_
  rw [h2]; change K _ _ _ _ _ _ _ _ _ _ _ _ _ _ _ _ _ _ (.ref x1 :: _)
  refine k_getI (f := 64) (v := gI S 64 x1) B 1 0 rfl (by decide) rfl (by decide) rfl rfl (fun w h => in_of (uw_1 w h)) (in_of qfRX11_264) dX11_move_55 h3 rfl ?_
  refine k_if_lt (tgt := 63) B dX11_move_58 (by decide) (fun c => ?_) (fun c => ?_)
  · exact kt c
  · refine k_sub [] rfl ?_
    exact kf c
theorem bX11_move_61 (B : Bd p s m args meth c cX11_move 2 (wsOf yX11_move cX11_move 2 (some .int)) RX11 w (some .int) "move") {post : Int32 → St → Prop}  (hq : post 0 S) : K p l e rX11_move s m args below meth c 2 w 0 0 (MQ below (va_Qi post (fun S' t => Hd w S' t.heap) (wA w)) args s 0 0 (wA w)) S 61 [] [] := by
  refine k_iconst (v := 0) B (by decide) dX11_move_61 ?_
  exact ret_I B rfl dX11_move_62 (hq)
theorem bX11_move_63 (B : Bd p s m args meth c cX11_move 2 (wsOf yX11_move cX11_move 2 (some .int)) RX11 w (some .int) "move") {v0 : Nat} {x1 : Nat} {x2 : Nat} {post : St → Prop} {Q : State → Prop} (h1 : kd S v0 = 13) (h2 : gP S 775 v0 = some x1) (h3 : kd S x1 = 2) (h4 : gP S 66 x1 = some x2) (hc : ConV l yX11_takeOut (wsOf yX11_takeOut cX11_takeOut 1 none) rX11_takeOut w S [.ref x2] post) (kk : ∀ (S' : St), post S' → K p l e rX11_move s m args below meth c 2 w 0 0 Q S' 73 [(0, .ref v0)] []) : K p l e rX11_move s m args below meth c 2 w 0 0 Q S 63 [(0, .ref v0)] [] := by
  refine k_aload_n B 0 rfl rfl dX11_move_63 ?_
  refine k_getP (f := 775) (r := gP S 775 v0) B 12 7 rfl (by decide) rfl (by decide) rfl rfl (fun w h => in_of (uw_12 w h)) (in_of qfRX11_53) dX11_move_64 h1 rfl ?_
  rw [h2]; change K _ _ _ _ _ _ _ _ _ _ _ _ _ _ _ _ _ _ (.ref x1 :: _)
  refine k_getP (f := 66) (r := gP S 66 x1) B 1 2 rfl (by decide) rfl (by decide) rfl rfl (fun w h => in_of (uw_1 w h)) (in_of qfRX11_235) dX11_move_67 h3 rfl ?_
  rw [h4]; change K _ _ _ _ _ _ _ _ _ _ _ _ _ _ _ _ _ _ (.ref x2 :: _)
  refine callS_V (st := []) B [.ref x2] (hc) (va_cwS 1 B.1.2.2.2.2 (gS qlRX11_194 qsX11_takeOut qzRX11 qcX11_takeOut) rfl rfl rfl (by decide +kernel) ⟨Nat.le_of_ble_eq_true rfl, Nat.le_of_ble_eq_true rfl⟩) rfl (Nat.le_of_ble_eq_true rfl) rfl dX11_move_70 ⟨Nat.le_of_ble_eq_true rfl, Nat.le_of_ble_eq_true rfl⟩ (fun S' hp => ?_)
  exact kk S' hp
theorem bX11_move_73 (B : Bd p s m args meth c cX11_move 2 (wsOf yX11_move cX11_move 2 (some .int)) RX11 w (some .int) "move") {v0 : Nat} {x1 : Nat} {x2 : Nat} {x3 : Nat} {post : St → Prop} {Q : State → Prop} (h1 : kd S v0 = 13) (h2 : gP S 775 v0 = some x1) (h3 : kd S x1 = 2) (h4 : gP S 66 x1 = some x2) (h5 : gP S 775 v0 = some x3) (h6 : kd S x3 = 2) (hc : ConV l yX11_putInAtSpot (wsOf yX11_putInAtSpot cX11_putInAtSpot 3 none) rX11_putInAtSpot w S [.ref v0, .ref x2, .int (gI S 65 x3)] post) (kk : ∀ (S' : St), post S' → K p l e rX11_move s m args below meth c 2 w 0 0 Q S' 91 [(0, .ref v0)] []) : K p l e rX11_move s m args below meth c 2 w 0 0 Q S 73 [(0, .ref v0)] [] := by
  refine k_aload_n B 0 rfl rfl dX11_move_73 ?_
  refine k_aload_n B 0 rfl rfl dX11_move_74 ?_
  refine k_getP (f := 775) (r := gP S 775 v0) B 12 7 rfl (by decide) rfl (by decide) rfl rfl (fun w h => in_of (uw_12 w h)) (in_of qfRX11_53) dX11_move_75 h1 rfl ?_
  rw [h2]; change K _ _ _ _ _ _ _ _ _ _ _ _ _ _ _ _ _ _ (.ref x1 :: _)
  refine k_getP (f := 66) (r := gP S 66 x1) B 1 2 rfl (by decide) rfl (by decide) rfl rfl (fun w h => in_of (uw_1 w h)) (in_of qfRX11_235) dX11_move_78 h3 rfl ?_
  rw [h4]; change K _ _ _ _ _ _ _ _ _ _ _ _ _ _ _ _ _ _ (.ref x2 :: _)
  refine k_aload_n B 0 rfl rfl dX11_move_81 ?_
  refine k_getP (f := 775) (r := gP S 775 v0) B 12 7 rfl (by decide) rfl (by decide) rfl rfl (fun w h => in_of (uw_12 w h)) (in_of qfRX11_53) dX11_move_82 h1 rfl ?_
  rw [h5]; change K _ _ _ _ _ _ _ _ _ _ _ _ _ _ _ _ _ _ (.ref x3 :: _)
  refine k_getI (f := 65) (v := gI S 65 x3) B 1 1 rfl (by decide) rfl (by decide) rfl rfl (fun w h => in_of (uw_1 w h)) (in_of qfRX11_239) dX11_move_85 h6 rfl ?_
  refine callV_V (st := []) B [.ref x2, .int (gI S 65 x3)] (hc) (cwV 2 B.1.2.2.2.2 (gV qlRX11_242 qiX11_putInAtSpot qeX11_putInAtSpot qzRX11 qcX11_putInAtSpot) rfl rfl rfl (by decide +kernel) ⟨Nat.le_of_ble_eq_true rfl, Nat.le_of_ble_eq_true rfl⟩) rfl rfl (by decide) h1 (Nat.le_of_ble_eq_true rfl) rfl dX11_move_88 ⟨Nat.le_of_ble_eq_true rfl, Nat.le_of_ble_eq_true rfl⟩ (fun S' hp => ?_)
  exact kk S' hp
theorem bX11_move_91 (B : Bd p s m args meth c cX11_move 2 (wsOf yX11_move cX11_move 2 (some .int)) RX11 w (some .int) "move") {v0 : Nat} {x1 : Nat} {post : Int32 → St → Prop} (h1 : kd S v0 = 13) (h2 : gP S 775 v0 = some x1) (h3 : kd S x1 = 2) (hq : post (-(gI S 64 x1)) S) : K p l e rX11_move s m args below meth c 2 w 0 0 (MQ below (va_Qi post (fun S' t => Hd w S' t.heap) (wA w)) args s 0 0 (wA w)) S 91 [(0, .ref v0)] [] := by
  refine k_aload_n B 0 rfl rfl dX11_move_91 ?_
  refine k_getP (f := 775) (r := gP S 775 v0) B 12 7 rfl (by decide) rfl (by decide) rfl rfl (fun w h => in_of (uw_12 w h)) (in_of qfRX11_53) dX11_move_92 h1 rfl ?_
  rw [h2]; change K _ _ _ _ _ _ _ _ _ _ _ _ _ _ _ _ _ _ (.ref x1 :: _)
  refine k_getI (f := 64) (v := gI S 64 x1) B 1 0 rfl (by decide) rfl (by decide) rfl rfl (fun w h => in_of (uw_1 w h)) (in_of qfRX11_264) dX11_move_95 h3 rfl ?_
  refine k_ineg B dX11_move_98 ?_
  exact ret_I B rfl dX11_move_99 (hq)
theorem bX11_count_0 (B : Bd p s m args meth c cX11_count 2 (wsOf yX11_count cX11_count 2 (some .int)) RX11 w (some .int) "count") (hl : l.stackTraces = false) (ht : ∀ x ∈ c.exceptionTable.toList, False) {v0 : Nat} {v1 : Int32} {px : String → St → Prop} {post : St → Prop} {k n : Nat} {px' : String → St → Prop} {Qc : Array Value → State → Outcome → State → Prop} (hc : ConXV l yX11_needIndex (wsOf yX11_needIndex cX11_needIndex 2 none) rX11_needIndex w S [.int v1, .int 12] post px) (h1 : k + 1 ≤ rX11_count.cells) (h2 : n + 6 ≤ rX11_count.slots) (kx : ∀ (E : String) (S' : St), px E S' → px' E S') (kk : ∀ (S' : St), post S' → K p l e rX11_count s m args below meth c 2 w (k + 1) (n + 6) (vx_MQ below Qc (XCs w px') args s rX11_count.cells rX11_count.slots (wA w)) S' 6 [(0, .ref v0), (1, .int v1)] []) : K p l e rX11_count s m args below meth c 2 w k n (vx_MQ below Qc (XCs w px') args s rX11_count.cells rX11_count.slots (wA w)) S 0 [(0, .ref v0), (1, .int v1)] [] := by
  refine k_iload_n B 1 rfl rfl dX11_count_0 ?_
  refine k_bipush (v := 12) B (by decide) dX11_count_1 ?_
  refine tcallS_V (st := []) B ht [.int v1, .int 12] (hc) (va_cwS 2 B.1.2.2.2.2 (gS qlRX11_71 qsX11_needIndex qzRX11 qcX11_needIndex) rfl rfl rfl (by decide +kernel) ⟨Nat.le_of_ble_eq_true rfl, Nat.le_of_ble_eq_true rfl⟩) rfl (Nat.le_of_ble_eq_true rfl) rfl dX11_count_3 ⟨h1, h2⟩ ⟨h1, h2⟩ (kx) (fun S' hp => ?_)
  exact kk S' hp
theorem bX11_count_6 (B : Bd p s m args meth c cX11_count 2 (wsOf yX11_count cX11_count 2 (some .int)) RX11 w (some .int) "count") (hl : l.stackTraces = false) (ht : ∀ x ∈ c.exceptionTable.toList, False) {v0 : Nat} {v1 : Int32} {post : Int32 → St → Prop} {k n : Nat} {px' : String → St → Prop} {Qc : Array Value → State → Outcome → State → Prop} (hc : ConI l yX11_counted (wsOf yX11_counted cX11_counted 2 (some .int)) rX11_counted w S [.ref v0, .int v1] post) (h1 : k + 0 ≤ rX11_count.cells) (h2 : n + 0 ≤ rX11_count.slots) (h3 : kd S v0 = 13) (kk : ∀ (r : Int32) (S' : St), post r S' → K p l e rX11_count s m args below meth c 2 w k n (vx_MQ below Qc (XCs w px') args s rX11_count.cells rX11_count.slots (wA w)) S' 11 [] [.int r]) : K p l e rX11_count s m args below meth c 2 w k n (vx_MQ below Qc (XCs w px') args s rX11_count.cells rX11_count.slots (wA w)) S 6 [(0, .ref v0), (1, .int v1)] [] := by
  refine k_aload_n B 0 rfl rfl dX11_count_6 ?_
  refine k_iload_n B 1 rfl rfl dX11_count_7 ?_
  refine callV_I (st := []) B [.int v1] (hc) (cwV 1 B.1.2.2.2.2 (gV qlRX11_267 qiX11_counted qeX11_counted qzRX11 qcX11_counted) rfl rfl rfl (by decide +kernel) ⟨Nat.le_of_ble_eq_true rfl, Nat.le_of_ble_eq_true rfl⟩) rfl rfl (by decide) h3 (Nat.le_of_ble_eq_true rfl) rfl dX11_count_8 ⟨h1, h2⟩ (fun r S' hp => ?_)
  refine k_sub [] rfl ?_
  exact kk r S' hp
theorem bX11_count_11 (B : Bd p s m args meth c cX11_count 2 (wsOf yX11_count cX11_count 2 (some .int)) RX11 w (some .int) "count") (hl : l.stackTraces = false) (ht : ∀ x ∈ c.exceptionTable.toList, False) {t0 : Int32} {post : Int32 → St → Prop} {k n : Nat} {px' : String → St → Prop} (h1 : k ≤ rX11_count.cells) (h2 : n ≤ rX11_count.slots) (hq : post t0 S) : K p l e rX11_count s m args below meth c 2 w k n (vx_MQ below (va_Qi post (fun S' t => Hd w S' t.heap) (wA w)) (XCs w px') args s rX11_count.cells rX11_count.slots (wA w)) S 11 [] [.int t0] := by
  exact k_xret_I h1 h2 (ret_I B rfl dX11_count_11 (hq))
theorem bX11_drive_0 (B : Bd p s m args meth c cX11_drive 2 (wsOf yX11_drive cX11_drive 2 (some .int)) RX11 w (some .int) "drive") {v0 : Nat} {post : St → Prop} {Q : State → Prop} (hc : ConV l yX11_driveVans (wsOf yX11_driveVans cX11_driveVans 2 none) rX11_driveVans w S [.ref v0] post) (h1 : kd S v0 = 13) (kk : ∀ (S' : St), post S' → K p l e rX11_drive s m args below meth c 2 w 0 0 Q S' 4 [(0, .ref v0)] []) : K p l e rX11_drive s m args below meth c 2 w 0 0 Q S 0 [(0, .ref v0)] [] := by
  refine k_aload_n B 0 rfl rfl dX11_drive_0 ?_
  refine callV_V (st := []) B [] (hc) (cwV 0 B.1.2.2.2.2 (gV qlRX11_271 qiX11_driveVans qeX11_driveVans qzRX11 qcX11_driveVans) rfl rfl rfl (by decide +kernel) ⟨Nat.le_of_ble_eq_true rfl, Nat.le_of_ble_eq_true rfl⟩) rfl rfl (by decide) h1 (Nat.le_of_ble_eq_true rfl) rfl dX11_drive_1 ⟨Nat.le_of_ble_eq_true rfl, Nat.le_of_ble_eq_true rfl⟩ (fun S' hp => ?_)
  exact kk S' hp
theorem bX11_drive_4 (B : Bd p s m args meth c cX11_drive 2 (wsOf yX11_drive cX11_drive 2 (some .int)) RX11 w (some .int) "drive") {v0 : Nat} {Q : State → Prop}  (kk : K p l e rX11_drive s m args below meth c 2 w 0 0 Q S 6 [(0, .ref v0), (1, .int 0)] []) : K p l e rX11_drive s m args below meth c 2 w 0 0 Q S 4 [(0, .ref v0)] [] := by
  refine k_iconst (v := 0) B (by decide) dX11_drive_4 ?_
  refine k_istore_n (lst' := [(1, .int 0), (0, .ref v0)]) B rfl (by decide) rfl dX11_drive_5 ?_
  refine k_sub [1, 0] rfl ?_
  exact kk
theorem bX11_drive_6 (B : Bd p s m args meth c cX11_drive 2 (wsOf yX11_drive cX11_drive 2 (some .int)) RX11 w (some .int) "drive") {v0 : Nat} {v1 : Int32} {x1 : Nat} {post : Int32 → St → Prop} {Q : State → Prop} (h1 : kd S v0 = 13) (h2 : gP S 772 v0 = some x1) (hc : ConI l yJx4a65c_size_8abf5 (wsOf yJx4a65c_size_8abf5 cJx4a65c_size_8abf5 1 (some .int)) rJx4a65c_size_8abf5 w S [.ref x1] post) (h3 : kd S x1 = 1) (kk : ∀ (r : Int32) (S' : St), post r S' → K p l e rX11_drive s m args below meth c 2 w 0 0 Q S' 14 [(0, .ref v0), (1, .int v1)] [.int r, .int v1]) : K p l e rX11_drive s m args below meth c 2 w 0 0 Q S 6 [(0, .ref v0), (1, .int v1)] [] := by
  refine k_iload_n B 1 rfl rfl dX11_drive_6 ?_
  refine k_aload_n B 0 rfl rfl dX11_drive_7 ?_
  refine k_getP (f := 772) (r := gP S 772 v0) B 12 4 rfl (by decide) rfl (by decide) rfl rfl (fun w h => in_of (uw_12 w h)) (in_of qfRX11_29) dX11_drive_8 h1 rfl ?_
  rw [h2]; change K _ _ _ _ _ _ _ _ _ _ _ _ _ _ _ _ _ _ (.ref x1 :: _)
  refine callV_I (st := [.int v1]) B [] (hc) (cwV 0 B.1.2.2.2.2 (gV qlRX11_101 qiJx4a65c_size_8abf5 qeJx4a65c_size_8abf5 qzRJx4a65c qcJx4a65c_size_8abf5) rfl rfl rfl (by decide +kernel) ⟨Nat.le_of_ble_eq_true rfl, Nat.le_of_ble_eq_true rfl⟩) rfl rfl (by decide) h3 (Nat.le_of_ble_eq_true rfl) rfl dX11_drive_11 ⟨Nat.le_of_ble_eq_true rfl, Nat.le_of_ble_eq_true rfl⟩ (fun r S' hp => ?_)
  exact kk r S' hp
theorem bX11_drive_14 (B : Bd p s m args meth c cX11_drive 2 (wsOf yX11_drive cX11_drive 2 (some .int)) RX11 w (some .int) "drive") {v0 : Nat} {v1 : Int32} {t0 : Int32} {t1 : Int32} {Q : State → Prop}  (kt : t1 ≤ t0 → K p l e rX11_drive s m args below meth c 2 w 0 0 Q S 38 [(0, .ref v0)] []) (kf : ¬ t1 ≤ t0 → K p l e rX11_drive s m args below meth c 2 w 0 0 Q S 17 [(0, .ref v0), (1, .int v1)] []) : K p l e rX11_drive s m args below meth c 2 w 0 0 Q S 14 [(0, .ref v0), (1, .int v1)] [.int t1, .int t0] := by
  refine k_icmp_ge (tgt := 38) B dX11_drive_14 (by decide) (fun c => ?_) (fun c => ?_)
  · refine k_sub [0] rfl ?_
    exact kt c
  · exact kf c
theorem bX11_drive_17 (B : Bd p s m args meth c cX11_drive 2 (wsOf yX11_drive cX11_drive 2 (some .int)) RX11 w (some .int) "drive") {v0 : Nat} {v1 : Int32} {x1 : Nat} {post : Nat → St → Prop} {Q : State → Prop} (h1 : kd S v0 = 13) (h2 : gP S 772 v0 = some x1) (hc : ConR l yJx4a65c_get_915e3 (wsOf yJx4a65c_get_915e3 cJx4a65c_get_915e3 2 (some (.object "java/lang/Object"))) rJx4a65c_get_915e3 w S [.ref x1, .int v1] post) (h3 : kd S x1 = 1) (kk : ∀ (r : Nat) (S' : St), post r S' → K p l e rX11_drive s m args below meth c 2 w 0 0 Q S' 25 [(0, .ref v0), (1, .int v1)] [.ref r]) : K p l e rX11_drive s m args below meth c 2 w 0 0 Q S 17 [(0, .ref v0), (1, .int v1)] [] := by
  refine k_aload_n B 0 rfl rfl dX11_drive_17 ?_
  refine k_getP (f := 772) (r := gP S 772 v0) B 12 4 rfl (by decide) rfl (by decide) rfl rfl (fun w h => in_of (uw_12 w h)) (in_of qfRX11_29) dX11_drive_18 h1 rfl ?_
  rw [h2]; change K _ _ _ _ _ _ _ _ _ _ _ _ _ _ _ _ _ _ (.ref x1 :: _)
  refine k_iload_n B 1 rfl rfl dX11_drive_21 ?_
  refine callV_R (st := []) B [.int v1] (hc) (cwV 1 B.1.2.2.2.2 (gV qlRX11_124 qiJx4a65c_get_915e3 qeJx4a65c_get_915e3 qzRJx4a65c qcJx4a65c_get_915e3) rfl rfl rfl (by decide +kernel) ⟨Nat.le_of_ble_eq_true rfl, Nat.le_of_ble_eq_true rfl⟩) rfl rfl (by decide) h3 (Nat.le_of_ble_eq_true rfl) rfl dX11_drive_22 ⟨Nat.le_of_ble_eq_true rfl, Nat.le_of_ble_eq_true rfl⟩ (fun r S' hp => ?_)
  exact kk r S' hp
theorem bX11_drive_25 (B : Bd p s m args meth c cX11_drive 2 (wsOf yX11_drive cX11_drive 2 (some .int)) RX11 w (some .int) "drive") {v0 : Nat} {v1 : Int32} {t0 : Nat} {Q : State → Prop} (h1 : kd S t0 = 5) (kk : K p l e rX11_drive s m args below meth c 2 w 0 0 Q (sP S 263 t0 none) 6 [(0, .ref v0), (1, .int (v1 + 1))] []) : K p l e rX11_drive s m args below meth c 2 w 0 0 Q S 25 [(0, .ref v0), (1, .int v1)] [.ref t0] := by
  refine k_cast B 4 rfl (by decide) (in_of qkRX11_144) dX11_drive_25 h1 ?_
  refine k_null B dX11_drive_28 ?_
  refine k_putP (f := 263) (v := none) B 4 7 rfl (by decide) rfl (by decide) rfl rfl (fun w h => in_of (uw_4 w h)) (in_of qfRX11_181) tyX3 tyX3_ok nmX3 rfl (tyX3_ok 7 (by decide)) rfl rfl dX11_drive_29 h1 ?_
  refine k_iinc (v := v1 + 1) (lst' := [(1, .int (v1 + 1)), (0, .ref v0)]) B 1 rfl rfl (by decide) rfl dX11_drive_32 ?_
  refine k_goto (tgt := 6) B dX11_drive_35 (by decide) ?_
  refine k_sub [1, 0] rfl ?_
  exact kk
theorem bX11_drive_38 (B : Bd p s m args meth c cX11_drive 2 (wsOf yX11_drive cX11_drive 2 (some .int)) RX11 w (some .int) "drive") {v0 : Nat} {Q : State → Prop}  (kk : K p l e rX11_drive s m args below meth c 2 w 0 0 Q S 40 [(0, .ref v0), (1, .int 0)] []) : K p l e rX11_drive s m args below meth c 2 w 0 0 Q S 38 [(0, .ref v0)] [] := by
  refine k_iconst (v := 0) B (by decide) dX11_drive_38 ?_
  refine k_istore_n (lst' := [(1, .int 0), (0, .ref v0)]) B rfl (by decide) rfl dX11_drive_39 ?_
  refine k_sub [1, 0] rfl ?_
  exact kk
theorem bX11_drive_40 (B : Bd p s m args meth c cX11_drive 2 (wsOf yX11_drive cX11_drive 2 (some .int)) RX11 w (some .int) "drive") {v0 : Nat} {v1 : Int32} {x1 : Nat} {post : Int32 → St → Prop} {Q : State → Prop} (h1 : kd S v0 = 13) (h2 : gP S 771 v0 = some x1) (hc : ConI l yJx4a65c_size_8abf5 (wsOf yJx4a65c_size_8abf5 cJx4a65c_size_8abf5 1 (some .int)) rJx4a65c_size_8abf5 w S [.ref x1] post) (h3 : kd S x1 = 1) (kk : ∀ (r : Int32) (S' : St), post r S' → K p l e rX11_drive s m args below meth c 2 w 0 0 Q S' 48 [(0, .ref v0), (1, .int v1)] [.int r, .int v1]) : K p l e rX11_drive s m args below meth c 2 w 0 0 Q S 40 [(0, .ref v0), (1, .int v1)] [] := by
  refine k_iload_n B 1 rfl rfl dX11_drive_40 ?_
  refine k_aload_n B 0 rfl rfl dX11_drive_41 ?_
  refine k_getP (f := 771) (r := gP S 771 v0) B 12 3 rfl (by decide) rfl (by decide) rfl rfl (fun w h => in_of (uw_12 w h)) (in_of qfRX11_26) dX11_drive_42 h1 rfl ?_
  rw [h2]; change K _ _ _ _ _ _ _ _ _ _ _ _ _ _ _ _ _ _ (.ref x1 :: _)
  refine callV_I (st := [.int v1]) B [] (hc) (cwV 0 B.1.2.2.2.2 (gV qlRX11_101 qiJx4a65c_size_8abf5 qeJx4a65c_size_8abf5 qzRJx4a65c qcJx4a65c_size_8abf5) rfl rfl rfl (by decide +kernel) ⟨Nat.le_of_ble_eq_true rfl, Nat.le_of_ble_eq_true rfl⟩) rfl rfl (by decide) h3 (Nat.le_of_ble_eq_true rfl) rfl dX11_drive_45 ⟨Nat.le_of_ble_eq_true rfl, Nat.le_of_ble_eq_true rfl⟩ (fun r S' hp => ?_)
  exact kk r S' hp
theorem bX11_drive_48 (B : Bd p s m args meth c cX11_drive 2 (wsOf yX11_drive cX11_drive 2 (some .int)) RX11 w (some .int) "drive") {v0 : Nat} {v1 : Int32} {t0 : Int32} {t1 : Int32} {Q : State → Prop}  (kt : t1 ≤ t0 → K p l e rX11_drive s m args below meth c 2 w 0 0 Q S 75 [(0, .ref v0)] []) (kf : ¬ t1 ≤ t0 → K p l e rX11_drive s m args below meth c 2 w 0 0 Q S 51 [(0, .ref v0), (1, .int v1)] []) : K p l e rX11_drive s m args below meth c 2 w 0 0 Q S 48 [(0, .ref v0), (1, .int v1)] [.int t1, .int t0] := by
  refine k_icmp_ge (tgt := 75) B dX11_drive_48 (by decide) (fun c => ?_) (fun c => ?_)
  · refine k_sub [0] rfl ?_
    exact kt c
  · exact kf c
theorem bX11_drive_51 (B : Bd p s m args meth c cX11_drive 2 (wsOf yX11_drive cX11_drive 2 (some .int)) RX11 w (some .int) "drive") {v0 : Nat} {v1 : Int32} {x1 : Nat} {post : Nat → St → Prop} {Q : State → Prop} (h1 : kd S v0 = 13) (h2 : gP S 771 v0 = some x1) (hc : ConR l yJx4a65c_get_915e3 (wsOf yJx4a65c_get_915e3 cJx4a65c_get_915e3 2 (some (.object "java/lang/Object"))) rJx4a65c_get_915e3 w S [.ref x1, .int v1] post) (h3 : kd S x1 = 1) (kk : ∀ (r : Nat) (S' : St), post r S' → K p l e rX11_drive s m args below meth c 2 w 0 0 Q S' 59 [(0, .ref v0), (1, .int v1)] [.ref r]) : K p l e rX11_drive s m args below meth c 2 w 0 0 Q S 51 [(0, .ref v0), (1, .int v1)] [] := by
  refine k_aload_n B 0 rfl rfl dX11_drive_51 ?_
  refine k_getP (f := 771) (r := gP S 771 v0) B 12 3 rfl (by decide) rfl (by decide) rfl rfl (fun w h => in_of (uw_12 w h)) (in_of qfRX11_26) dX11_drive_52 h1 rfl ?_
  rw [h2]; change K _ _ _ _ _ _ _ _ _ _ _ _ _ _ _ _ _ _ (.ref x1 :: _)
  refine k_iload_n B 1 rfl rfl dX11_drive_55 ?_
  refine callV_R (st := []) B [.int v1] (hc) (cwV 1 B.1.2.2.2.2 (gV qlRX11_124 qiJx4a65c_get_915e3 qeJx4a65c_get_915e3 qzRJx4a65c qcJx4a65c_get_915e3) rfl rfl rfl (by decide +kernel) ⟨Nat.le_of_ble_eq_true rfl, Nat.le_of_ble_eq_true rfl⟩) rfl rfl (by decide) h3 (Nat.le_of_ble_eq_true rfl) rfl dX11_drive_56 ⟨Nat.le_of_ble_eq_true rfl, Nat.le_of_ble_eq_true rfl⟩ (fun r S' hp => ?_)
  exact kk r S' hp
theorem bX11_drive_59 (B : Bd p s m args meth c cX11_drive 2 (wsOf yX11_drive cX11_drive 2 (some .int)) RX11 w (some .int) "drive") {v0 : Nat} {v1 : Int32} {t0 : Nat} {x1 : Nat} {Q : State → Prop} (h1 : kd S t0 = 12) (h2 : gP S 708 t0 = some x1) (h3 : kd S x1 = 8) (kk : K p l e rX11_drive s m args below meth c 2 w 0 0 Q (sI S 449 x1 0) 40 [(0, .ref v0), (1, .int (v1 + 1))] []) : K p l e rX11_drive s m args below meth c 2 w 0 0 Q S 59 [(0, .ref v0), (1, .int v1)] [.ref t0] := by
  refine k_cast B 11 rfl (by decide) (in_of qkRX11_139) dX11_drive_59 h1 ?_
  refine k_getP (f := 708) (r := gP S 708 t0) B 11 4 rfl (by decide) rfl (by decide) rfl rfl (fun w h => in_of (uw_11 w h)) (in_of qfRX11_187) dX11_drive_62 h1 rfl ?_
  rw [h2]; change K _ _ _ _ _ _ _ _ _ _ _ _ _ _ _ _ _ _ (.ref x1 :: _)
  refine k_iconst (v := 0) B (by decide) dX11_drive_65 ?_
  refine k_putI (f := 449) B 7 1 rfl (by decide) rfl (by decide) rfl rfl (fun w h => in_of (uw_7 w h)) (in_of qfRX11_246) tyX6 tyX6_ok nmX6 rfl (tyX6_ok 1 (by decide)) dX11_drive_66 h3 ?_
  refine k_iinc (v := v1 + 1) (lst' := [(1, .int (v1 + 1)), (0, .ref v0)]) B 1 rfl rfl (by decide) rfl dX11_drive_69 ?_
  refine k_goto (tgt := 40) B dX11_drive_72 (by decide) ?_
  refine k_sub [1, 0] rfl ?_
  exact kk
theorem bX11_drive_75 (B : Bd p s m args meth c cX11_drive 2 (wsOf yX11_drive cX11_drive 2 (some .int)) RX11 w (some .int) "drive") {v0 : Nat} {x1 : Nat} {post : Int32 → St → Prop} (h1 : kd S v0 = 13) (h2 : gP S 774 v0 = some x1) (h3 : kd S x1 = 7) (hq : post (gI S 388 x1) (sI S 778 v0 ((gI S 778 v0) + 1))) : K p l e rX11_drive s m args below meth c 2 w 0 0 (MQ below (va_Qi post (fun S' t => Hd w S' t.heap) (wA w)) args s 0 0 (wA w)) S 75 [(0, .ref v0)] [] := by
  refine k_aload_n B 0 rfl rfl dX11_drive_75 ?_
  refine k_dup B rfl dX11_drive_76 ?_
  refine k_getI (f := 778) (v := gI S 778 v0) B 12 10 rfl (by decide) rfl (by decide) rfl rfl (fun w h => in_of (uw_12 w h)) (in_of qfRX11_67) dX11_drive_77 h1 rfl ?_
  refine k_iconst (v := 1) B (by decide) dX11_drive_80 ?_
  refine k_iadd B dX11_drive_81 ?_
  refine k_putI (f := 778) B 12 10 rfl (by decide) rfl (by decide) rfl rfl (fun w h => in_of (uw_12 w h)) (in_of qfRX11_67) tyX11 tyX11_ok nmX11 rfl (tyX11_ok 10 (by decide)) dX11_drive_82 h1 ?_
  refine k_aload_n B 0 rfl rfl dX11_drive_85 ?_
  refine k_getP (f := 774) (r := gP S 774 v0) B 12 6 rfl (by decide) rfl (by decide) rfl rfl (fun w h => in_of (uw_12 w h)) (in_of qfRX11_46) dX11_drive_86 h1 rfl ?_
  rw [h2]; change K _ _ _ _ _ _ _ _ _ _ _ _ _ _ _ _ _ _ (.ref x1 :: _)
  refine k_getI (f := 388) (v := gI S 388 x1) B 6 4 rfl (by decide) rfl (by decide) rfl rfl (fun w h => in_of (uw_6 w h)) (in_of qfRX11_274) dX11_drive_89 h3 rfl ?_
  exact ret_I B rfl dX11_drive_92 (hq)
theorem bX11_foresee_0 (B : Bd p s m args meth c cX11_foresee 4 (wsOf yX11_foresee cX11_foresee 4 (some .int)) RX11 w (some .int) "foresee") (hl : l.stackTraces = false) (ht : ∀ x ∈ c.exceptionTable.toList, False) {v0 : Nat} {v1 : Int32} {px : String → St → Prop} {post : St → Prop} {k n : Nat} {px' : String → St → Prop} {Qc : Array Value → State → Outcome → State → Prop} (hc : ConXV l yX11_needIndex (wsOf yX11_needIndex cX11_needIndex 2 none) rX11_needIndex w S [.int v1, .int 3] post px) (h1 : k + 1 ≤ rX11_foresee.cells) (h2 : n + 6 ≤ rX11_foresee.slots) (kx : ∀ (E : String) (S' : St), px E S' → px' E S') (kk : ∀ (S' : St), post S' → K p l e rX11_foresee s m args below meth c 4 w (k + 1) (n + 6) (vx_MQ below Qc (XCs w px') args s rX11_foresee.cells rX11_foresee.slots (wA w)) S' 5 [(0, .ref v0), (1, .int v1)] []) : K p l e rX11_foresee s m args below meth c 4 w k n (vx_MQ below Qc (XCs w px') args s rX11_foresee.cells rX11_foresee.slots (wA w)) S 0 [(0, .ref v0), (1, .int v1)] [] := by
  refine k_iload_n B 1 rfl rfl dX11_foresee_0 ?_
  refine k_iconst (v := 3) B (by decide) dX11_foresee_1 ?_
  refine tcallS_V (st := []) B ht [.int v1, .int 3] (hc) (va_cwS 2 B.1.2.2.2.2 (gS qlRX11_71 qsX11_needIndex qzRX11 qcX11_needIndex) rfl rfl rfl (by decide +kernel) ⟨Nat.le_of_ble_eq_true rfl, Nat.le_of_ble_eq_true rfl⟩) rfl (Nat.le_of_ble_eq_true rfl) rfl dX11_foresee_2 ⟨h1, h2⟩ ⟨h1, h2⟩ (kx) (fun S' hp => ?_)
  exact kk S' hp
theorem bX11_foresee_5 (B : Bd p s m args meth c cX11_foresee 4 (wsOf yX11_foresee cX11_foresee 4 (some .int)) RX11 w (some .int) "foresee") (hl : l.stackTraces = false) (ht : ∀ x ∈ c.exceptionTable.toList, False) {v0 : Nat} {v1 : Int32} {post : Int32 → St → Prop} {k n : Nat} {px' : String → St → Prop} {Qc : Array Value → State → Outcome → State → Prop} (hc : ConI l yX11_inState (wsOf yX11_inState cX11_inState 4 (some .int)) rX11_inState w S [.ref v0, .int 4] post) (h1 : k + 0 ≤ rX11_foresee.cells) (h2 : n + 0 ≤ rX11_foresee.slots) (h3 : kd S v0 = 13) (kk : ∀ (r : Int32) (S' : St), post r S' → K p l e rX11_foresee s m args below meth c 4 w k n (vx_MQ below Qc (XCs w px') args s rX11_foresee.cells rX11_foresee.slots (wA w)) S' 10 [(0, .ref v0), (1, .int v1)] [.int r]) : K p l e rX11_foresee s m args below meth c 4 w k n (vx_MQ below Qc (XCs w px') args s rX11_foresee.cells rX11_foresee.slots (wA w)) S 5 [(0, .ref v0), (1, .int v1)] [] := by
  refine k_aload_n B 0 rfl rfl dX11_foresee_5 ?_
  refine k_iconst (v := 4) B (by decide) dX11_foresee_6 ?_
  refine callV_I (st := []) B [.int 4] (hc) (cwV 1 B.1.2.2.2.2 (gV qlRX11_277 qiX11_inState qeX11_inState qzRX11 qcX11_inState) rfl rfl rfl (by decide +kernel) ⟨Nat.le_of_ble_eq_true rfl, Nat.le_of_ble_eq_true rfl⟩) rfl rfl (by decide) h3 (Nat.le_of_ble_eq_true rfl) rfl dX11_foresee_7 ⟨h1, h2⟩ (fun r S' hp => ?_)
  exact kk r S' hp
theorem bX11_foresee_10 (B : Bd p s m args meth c cX11_foresee 4 (wsOf yX11_foresee cX11_foresee 4 (some .int)) RX11 w (some .int) "foresee") (hl : l.stackTraces = false) (ht : ∀ x ∈ c.exceptionTable.toList, False) {v0 : Nat} {v1 : Int32} {t0 : Int32} {post : St → Prop} {k n : Nat} {px' : String → St → Prop} {Qc : Array Value → State → Outcome → State → Prop} (hc : ConV l yX11_keepAll (wsOf yX11_keepAll cX11_keepAll 2 none) rX11_keepAll w S [.ref v0] post) (h1 : k + 0 ≤ rX11_foresee.cells) (h2 : n + 0 ≤ rX11_foresee.slots) (h3 : kd S v0 = 13) (kk : ∀ (S' : St), post S' → K p l e rX11_foresee s m args below meth c 4 w k n (vx_MQ below Qc (XCs w px') args s rX11_foresee.cells rX11_foresee.slots (wA w)) S' 15 [(0, .ref v0), (1, .int v1), (2, .int t0)] []) : K p l e rX11_foresee s m args below meth c 4 w k n (vx_MQ below Qc (XCs w px') args s rX11_foresee.cells rX11_foresee.slots (wA w)) S 10 [(0, .ref v0), (1, .int v1)] [.int t0] := by
  refine k_istore_n (lst' := [(2, .int t0), (0, .ref v0), (1, .int v1)]) B rfl (by decide) rfl dX11_foresee_10 ?_
  refine k_aload_n B 1 rfl rfl dX11_foresee_11 ?_
  refine callV_V (st := []) B [] (hc) (cwV 0 B.1.2.2.2.2 (gV qlRX11_280 qiX11_keepAll qeX11_keepAll qzRX11 qcX11_keepAll) rfl rfl rfl (by decide +kernel) ⟨Nat.le_of_ble_eq_true rfl, Nat.le_of_ble_eq_true rfl⟩) rfl rfl (by decide) h3 (Nat.le_of_ble_eq_true rfl) rfl dX11_foresee_12 ⟨h1, h2⟩ (fun S' hp => ?_)
  refine k_sub [1, 2, 0] rfl ?_
  exact kk S' hp
theorem bX11_foresee_15 (B : Bd p s m args meth c cX11_foresee 4 (wsOf yX11_foresee cX11_foresee 4 (some .int)) RX11 w (some .int) "foresee") (hl : l.stackTraces = false) (ht : ∀ x ∈ c.exceptionTable.toList, False) {v0 : Nat} {v1 : Int32} {v2 : Int32} {post : St → Prop} {k n : Nat} {px' : String → St → Prop} {Qc : Array Value → State → Outcome → State → Prop} (hc : ConV l yX11_driveVans (wsOf yX11_driveVans cX11_driveVans 2 none) rX11_driveVans w S [.ref v0] post) (h1 : k + 0 ≤ rX11_foresee.cells) (h2 : n + 0 ≤ rX11_foresee.slots) (h3 : kd S v0 = 13) (kk : ∀ (S' : St), post S' → K p l e rX11_foresee s m args below meth c 4 w k n (vx_MQ below Qc (XCs w px') args s rX11_foresee.cells rX11_foresee.slots (wA w)) S' 19 [(0, .ref v0), (1, .int v1), (2, .int v2)] []) : K p l e rX11_foresee s m args below meth c 4 w k n (vx_MQ below Qc (XCs w px') args s rX11_foresee.cells rX11_foresee.slots (wA w)) S 15 [(0, .ref v0), (1, .int v1), (2, .int v2)] [] := by
  refine k_aload_n B 0 rfl rfl dX11_foresee_15 ?_
  refine callV_V (st := []) B [] (hc) (cwV 0 B.1.2.2.2.2 (gV qlRX11_271 qiX11_driveVans qeX11_driveVans qzRX11 qcX11_driveVans) rfl rfl rfl (by decide +kernel) ⟨Nat.le_of_ble_eq_true rfl, Nat.le_of_ble_eq_true rfl⟩) rfl rfl (by decide) h3 (Nat.le_of_ble_eq_true rfl) rfl dX11_foresee_16 ⟨h1, h2⟩ (fun S' hp => ?_)
  exact kk S' hp
theorem bX11_foresee_19 (B : Bd p s m args meth c cX11_foresee 4 (wsOf yX11_foresee cX11_foresee 4 (some .int)) RX11 w (some .int) "foresee") (hl : l.stackTraces = false) (ht : ∀ x ∈ c.exceptionTable.toList, False) {v0 : Nat} {v1 : Int32} {v2 : Int32} {post : Int32 → St → Prop} {k n : Nat} {px' : String → St → Prop} {Qc : Array Value → State → Outcome → State → Prop} (hc : ConI l yX11_inState (wsOf yX11_inState cX11_inState 4 (some .int)) rX11_inState w S [.ref v0, .int 4] post) (h1 : k + 0 ≤ rX11_foresee.cells) (h2 : n + 0 ≤ rX11_foresee.slots) (h3 : kd S v0 = 13) (kk : ∀ (r : Int32) (S' : St), post r S' → K p l e rX11_foresee s m args below meth c 4 w k n (vx_MQ below Qc (XCs w px') args s rX11_foresee.cells rX11_foresee.slots (wA w)) S' 24 [(0, .ref v0), (1, .int v1), (2, .int v2)] [.int r]) : K p l e rX11_foresee s m args below meth c 4 w k n (vx_MQ below Qc (XCs w px') args s rX11_foresee.cells rX11_foresee.slots (wA w)) S 19 [(0, .ref v0), (1, .int v1), (2, .int v2)] [] := by
  refine k_aload_n B 0 rfl rfl dX11_foresee_19 ?_
  refine k_iconst (v := 4) B (by decide) dX11_foresee_20 ?_
  refine callV_I (st := []) B [.int 4] (hc) (cwV 1 B.1.2.2.2.2 (gV qlRX11_277 qiX11_inState qeX11_inState qzRX11 qcX11_inState) rfl rfl rfl (by decide +kernel) ⟨Nat.le_of_ble_eq_true rfl, Nat.le_of_ble_eq_true rfl⟩) rfl rfl (by decide) h3 (Nat.le_of_ble_eq_true rfl) rfl dX11_foresee_21 ⟨h1, h2⟩ (fun r S' hp => ?_)
  exact kk r S' hp
theorem bX11_foresee_24 (B : Bd p s m args meth c cX11_foresee 4 (wsOf yX11_foresee cX11_foresee 4 (some .int)) RX11 w (some .int) "foresee") (hl : l.stackTraces = false) (ht : ∀ x ∈ c.exceptionTable.toList, False) {v0 : Nat} {v1 : Int32} {v2 : Int32} {t0 : Int32} {post : St → Prop} {k n : Nat} {px' : String → St → Prop} {Qc : Array Value → State → Outcome → State → Prop} (hc : ConV l yX11_giveBackAll (wsOf yX11_giveBackAll cX11_giveBackAll 2 none) rX11_giveBackAll w S [.ref v0] post) (h1 : k + 0 ≤ rX11_foresee.cells) (h2 : n + 0 ≤ rX11_foresee.slots) (h3 : kd S v0 = 13) (kk : ∀ (S' : St), post S' → K p l e rX11_foresee s m args below meth c 4 w k n (vx_MQ below Qc (XCs w px') args s rX11_foresee.cells rX11_foresee.slots (wA w)) S' 31 [(0, .ref v0), (1, .int v1), (3, .int (t0 - v2))] []) : K p l e rX11_foresee s m args below meth c 4 w k n (vx_MQ below Qc (XCs w px') args s rX11_foresee.cells rX11_foresee.slots (wA w)) S 24 [(0, .ref v0), (1, .int v1), (2, .int v2)] [.int t0] := by
  refine k_iload_n B 2 rfl rfl dX11_foresee_24 ?_
  refine k_isub B dX11_foresee_25 ?_
  refine k_istore_n (lst' := [(3, .int (t0 - v2)), (0, .ref v0), (1, .int v1), (2, .int v2)]) B rfl (by decide) rfl dX11_foresee_26 ?_
  refine k_aload_n B 1 rfl rfl dX11_foresee_27 ?_
  refine callV_V (st := []) B [] (hc) (cwV 0 B.1.2.2.2.2 (gV qlRX11_283 qiX11_giveBackAll qeX11_giveBackAll qzRX11 qcX11_giveBackAll) rfl rfl rfl (by decide +kernel) ⟨Nat.le_of_ble_eq_true rfl, Nat.le_of_ble_eq_true rfl⟩) rfl rfl (by decide) h3 (Nat.le_of_ble_eq_true rfl) rfl dX11_foresee_28 ⟨h1, h2⟩ (fun S' hp => ?_)
  refine k_sub [1, 2, 0] rfl ?_
  exact kk S' hp
theorem bX11_foresee_31 (B : Bd p s m args meth c cX11_foresee 4 (wsOf yX11_foresee cX11_foresee 4 (some .int)) RX11 w (some .int) "foresee") (hl : l.stackTraces = false) (ht : ∀ x ∈ c.exceptionTable.toList, False) {v0 : Nat} {v1 : Int32} {v3 : Int32} {k n : Nat} {px' : String → St → Prop} {Qc : Array Value → State → Outcome → State → Prop}  (k0 : v1 = 0 → K p l e rX11_foresee s m args below meth c 4 w k n (vx_MQ below Qc (XCs w px') args s rX11_foresee.cells rX11_foresee.slots (wA w)) S 60 [(0, .ref v0)] []) (k1 : v1 = 1 → K p l e rX11_foresee s m args below meth c 4 w k n (vx_MQ below Qc (XCs w px') args s rX11_foresee.cells rX11_foresee.slots (wA w)) S 68 [(3, .int v3)] []) (kd : v1.toInt ≠ 0 ∧ v1.toInt ≠ 1 → K p l e rX11_foresee s m args below meth c 4 w k n (vx_MQ below Qc (XCs w px') args s rX11_foresee.cells rX11_foresee.slots (wA w)) S 70 [(0, .ref v0)] []) : K p l e rX11_foresee s m args below meth c 4 w k n (vx_MQ below Qc (XCs w px') args s rX11_foresee.cells rX11_foresee.slots (wA w)) S 31 [(0, .ref v0), (1, .int v1), (3, .int v3)] [] := by
  refine k_iload_n B 1 rfl rfl dX11_foresee_31 ?_
  rcases (show v1.toInt = 0 ∨ v1.toInt = 1 ∨ (v1.toInt ≠ 0 ∧ v1.toInt ≠ 1) by omega) with c | c | c
  · refine k_lookup (off := 28) (tgt := 60) B dX11_foresee_32 rfl (by rw [c]; rfl) (by decide) ?_
    refine k_sub [0] rfl ?_
    exact k0 (Int32.toInt_inj.mp (c.trans (by decide)))
  · refine k_lookup (off := 36) (tgt := 68) B dX11_foresee_32 rfl (by rw [c]; rfl) (by decide) ?_
    refine k_sub [2] rfl ?_
    exact k1 (Int32.toInt_inj.mp (c.trans (by decide)))
  · refine k_lookup (off := 38) (tgt := 70) B dX11_foresee_32 rfl (by simp [Op.lookupswitch.offset, c.1, c.2, Ne.symm c.1, Ne.symm c.2]) (by decide) ?_
    refine k_sub [0] rfl ?_
    exact kd c
theorem bX11_foresee_60 (B : Bd p s m args meth c cX11_foresee 4 (wsOf yX11_foresee cX11_foresee 4 (some .int)) RX11 w (some .int) "foresee") (hl : l.stackTraces = false) (ht : ∀ x ∈ c.exceptionTable.toList, False) {v0 : Nat} {x1 : Nat} {post : Int32 → St → Prop} {k n : Nat} {px' : String → St → Prop} (h1 : kd S v0 = 13) (h2 : gP S 774 v0 = some x1) (h3 : kd S x1 = 7) (h4 : k ≤ rX11_foresee.cells) (h5 : n ≤ rX11_foresee.slots) (hq : post (gI S 388 x1) S) : K p l e rX11_foresee s m args below meth c 4 w k n (vx_MQ below (va_Qi post (fun S' t => Hd w S' t.heap) (wA w)) (XCs w px') args s rX11_foresee.cells rX11_foresee.slots (wA w)) S 60 [(0, .ref v0)] [] := by
  refine k_aload_n B 0 rfl rfl dX11_foresee_60 ?_
  refine k_getP (f := 774) (r := gP S 774 v0) B 12 6 rfl (by decide) rfl (by decide) rfl rfl (fun w h => in_of (uw_12 w h)) (in_of qfRX11_46) dX11_foresee_61 h1 rfl ?_
  rw [h2]; change K _ _ _ _ _ _ _ _ _ _ _ _ _ _ _ _ _ _ (.ref x1 :: _)
  refine k_getI (f := 388) (v := gI S 388 x1) B 6 4 rfl (by decide) rfl (by decide) rfl rfl (fun w h => in_of (uw_6 w h)) (in_of qfRX11_274) dX11_foresee_64 h3 rfl ?_
  exact k_xret_I h4 h5 (ret_I B rfl dX11_foresee_67 (hq))
theorem bX11_foresee_68 (B : Bd p s m args meth c cX11_foresee 4 (wsOf yX11_foresee cX11_foresee 4 (some .int)) RX11 w (some .int) "foresee") (hl : l.stackTraces = false) (ht : ∀ x ∈ c.exceptionTable.toList, False) {v3 : Int32} {post : Int32 → St → Prop} {k n : Nat} {px' : String → St → Prop} (h1 : k ≤ rX11_foresee.cells) (h2 : n ≤ rX11_foresee.slots) (hq : post v3 S) : K p l e rX11_foresee s m args below meth c 4 w k n (vx_MQ below (va_Qi post (fun S' t => Hd w S' t.heap) (wA w)) (XCs w px') args s rX11_foresee.cells rX11_foresee.slots (wA w)) S 68 [(3, .int v3)] [] := by
  refine k_iload_n B 0 rfl rfl dX11_foresee_68 ?_
  exact k_xret_I h1 h2 (ret_I B rfl dX11_foresee_69 (hq))
theorem bX11_foresee_70 (B : Bd p s m args meth c cX11_foresee 4 (wsOf yX11_foresee cX11_foresee 4 (some .int)) RX11 w (some .int) "foresee") (hl : l.stackTraces = false) (ht : ∀ x ∈ c.exceptionTable.toList, False) {v0 : Nat} {x1 : Nat} {post : Int32 → St → Prop} {k n : Nat} {px' : String → St → Prop} (h1 : kd S v0 = 13) (h2 : gP S 774 v0 = some x1) (h3 : kd S x1 = 7) (h4 : k ≤ rX11_foresee.cells) (h5 : n ≤ rX11_foresee.slots) (hq : post (gI S 389 x1) S) : K p l e rX11_foresee s m args below meth c 4 w k n (vx_MQ below (va_Qi post (fun S' t => Hd w S' t.heap) (wA w)) (XCs w px') args s rX11_foresee.cells rX11_foresee.slots (wA w)) S 70 [(0, .ref v0)] [] := by
  refine k_aload_n B 0 rfl rfl dX11_foresee_70 ?_
  refine k_getP (f := 774) (r := gP S 774 v0) B 12 6 rfl (by decide) rfl (by decide) rfl rfl (fun w h => in_of (uw_12 w h)) (in_of qfRX11_46) dX11_foresee_71 h1 rfl ?_
  rw [h2]; change K _ _ _ _ _ _ _ _ _ _ _ _ _ _ _ _ _ _ (.ref x1 :: _)
  refine k_getI (f := 389) (v := gI S 389 x1) B 6 5 rfl (by decide) rfl (by decide) rfl rfl (fun w h => in_of (uw_6 w h)) (in_of qfRX11_286) dX11_foresee_74 h3 rfl ?_
  exact k_xret_I h4 h5 (ret_I B rfl dX11_foresee_77 (hq))
theorem bX11_hour_0 (B : Bd p s m args meth c cX11_hour 7 (wsOf yX11_hour cX11_hour 7 (some .int)) RX11 w (some .int) "hour") (hl : l.stackTraces = false) (ht : ∀ x ∈ c.exceptionTable.toList, False) {v0 : Nat} {v1 : Int32} {x1 : Nat} {post : Int32 → St → Prop} {k n : Nat} {px' : String → St → Prop} {Qc : Array Value → State → Outcome → State → Prop} (h1 : kd S v0 = 13) (h2 : gP S 769 v0 = some x1) (hc : ConI l yJx4a65c_size_8abf5 (wsOf yJx4a65c_size_8abf5 cJx4a65c_size_8abf5 1 (some .int)) rJx4a65c_size_8abf5 w S [.ref x1] post) (h3 : k + 0 ≤ rX11_hour.cells) (h4 : n + 0 ≤ rX11_hour.slots) (h5 : kd S x1 = 1) (kk : ∀ (r : Int32) (S' : St), post r S' → K p l e rX11_hour s m args below meth c 7 w k n (vx_MQ below Qc (XCs w px') args s rX11_hour.cells rX11_hour.slots (wA w)) S' 8 [(0, .ref v0), (1, .int v1)] [.int r, .int v1]) : K p l e rX11_hour s m args below meth c 7 w k n (vx_MQ below Qc (XCs w px') args s rX11_hour.cells rX11_hour.slots (wA w)) S 0 [(0, .ref v0), (1, .int v1)] [] := by
  refine k_iload_n B 1 rfl rfl dX11_hour_0 ?_
  refine k_aload_n B 0 rfl rfl dX11_hour_1 ?_
  refine k_getP (f := 769) (r := gP S 769 v0) B 12 1 rfl (by decide) rfl (by decide) rfl rfl (fun w h => in_of (uw_12 w h)) (in_of qfRX11_19) dX11_hour_2 h1 rfl ?_
  rw [h2]; change K _ _ _ _ _ _ _ _ _ _ _ _ _ _ _ _ _ _ (.ref x1 :: _)
  refine callV_I (st := [.int v1]) B [] (hc) (cwV 0 B.1.2.2.2.2 (gV qlRX11_101 qiJx4a65c_size_8abf5 qeJx4a65c_size_8abf5 qzRJx4a65c qcJx4a65c_size_8abf5) rfl rfl rfl (by decide +kernel) ⟨Nat.le_of_ble_eq_true rfl, Nat.le_of_ble_eq_true rfl⟩) rfl rfl (by decide) h5 (Nat.le_of_ble_eq_true rfl) rfl dX11_hour_5 ⟨h3, h4⟩ (fun r S' hp => ?_)
  exact kk r S' hp
theorem bX11_hour_8 (B : Bd p s m args meth c cX11_hour 7 (wsOf yX11_hour cX11_hour 7 (some .int)) RX11 w (some .int) "hour") (hl : l.stackTraces = false) (ht : ∀ x ∈ c.exceptionTable.toList, False) {v0 : Nat} {v1 : Int32} {t0 : Int32} {t1 : Int32} {px : String → St → Prop} {post : St → Prop} {k n : Nat} {px' : String → St → Prop} {Qc : Array Value → State → Outcome → State → Prop} (hc : ConXV l yX11_needIndex (wsOf yX11_needIndex cX11_needIndex 2 none) rX11_needIndex w S [.int t0, .int t1] post px) (h1 : k + 1 ≤ rX11_hour.cells) (h2 : n + 6 ≤ rX11_hour.slots) (kx : ∀ (E : String) (S' : St), px E S' → px' E S') (kk : ∀ (S' : St), post S' → K p l e rX11_hour s m args below meth c 7 w (k + 1) (n + 6) (vx_MQ below Qc (XCs w px') args s rX11_hour.cells rX11_hour.slots (wA w)) S' 11 [(0, .ref v0), (1, .int v1)] []) : K p l e rX11_hour s m args below meth c 7 w k n (vx_MQ below Qc (XCs w px') args s rX11_hour.cells rX11_hour.slots (wA w)) S 8 [(0, .ref v0), (1, .int v1)] [.int t1, .int t0] := by
  refine tcallS_V (st := []) B ht [.int t0, .int t1] (hc) (va_cwS 2 B.1.2.2.2.2 (gS qlRX11_71 qsX11_needIndex qzRX11 qcX11_needIndex) rfl rfl rfl (by decide +kernel) ⟨Nat.le_of_ble_eq_true rfl, Nat.le_of_ble_eq_true rfl⟩) rfl (Nat.le_of_ble_eq_true rfl) rfl dX11_hour_8 ⟨h1, h2⟩ ⟨h1, h2⟩ (kx) (fun S' hp => ?_)
  exact kk S' hp
theorem bX11_hour_11 (B : Bd p s m args meth c cX11_hour 7 (wsOf yX11_hour cX11_hour 7 (some .int)) RX11 w (some .int) "hour") (hl : l.stackTraces = false) (ht : ∀ x ∈ c.exceptionTable.toList, False) {v0 : Nat} {v1 : Int32} {x1 : Nat} {post : Nat → St → Prop} {k n : Nat} {px' : String → St → Prop} {Qc : Array Value → State → Outcome → State → Prop} (h1 : kd S v0 = 13) (h2 : gP S 769 v0 = some x1) (hc : ConR l yJx4a65c_get_915e3 (wsOf yJx4a65c_get_915e3 cJx4a65c_get_915e3 2 (some (.object "java/lang/Object"))) rJx4a65c_get_915e3 w S [.ref x1, .int v1] post) (h3 : k + 0 ≤ rX11_hour.cells) (h4 : n + 0 ≤ rX11_hour.slots) (h5 : kd S x1 = 1) (kk : ∀ (r : Nat) (S' : St), post r S' → K p l e rX11_hour s m args below meth c 7 w k n (vx_MQ below Qc (XCs w px') args s rX11_hour.cells rX11_hour.slots (wA w)) S' 19 [] [.ref r]) : K p l e rX11_hour s m args below meth c 7 w k n (vx_MQ below Qc (XCs w px') args s rX11_hour.cells rX11_hour.slots (wA w)) S 11 [(0, .ref v0), (1, .int v1)] [] := by
  refine k_aload_n B 0 rfl rfl dX11_hour_11 ?_
  refine k_getP (f := 769) (r := gP S 769 v0) B 12 1 rfl (by decide) rfl (by decide) rfl rfl (fun w h => in_of (uw_12 w h)) (in_of qfRX11_19) dX11_hour_12 h1 rfl ?_
  rw [h2]; change K _ _ _ _ _ _ _ _ _ _ _ _ _ _ _ _ _ _ (.ref x1 :: _)
  refine k_iload_n B 1 rfl rfl dX11_hour_15 ?_
  refine callV_R (st := []) B [.int v1] (hc) (cwV 1 B.1.2.2.2.2 (gV qlRX11_124 qiJx4a65c_get_915e3 qeJx4a65c_get_915e3 qzRJx4a65c qcJx4a65c_get_915e3) rfl rfl rfl (by decide +kernel) ⟨Nat.le_of_ble_eq_true rfl, Nat.le_of_ble_eq_true rfl⟩) rfl rfl (by decide) h5 (Nat.le_of_ble_eq_true rfl) rfl dX11_hour_16 ⟨h3, h4⟩ (fun r S' hp => ?_)
  refine k_sub [] rfl ?_
  exact kk r S' hp
theorem bX11_hour_19 (B : Bd p s m args meth c cX11_hour 7 (wsOf yX11_hour cX11_hour 7 (some .int)) RX11 w (some .int) "hour") (hl : l.stackTraces = false) (ht : ∀ x ∈ c.exceptionTable.toList, False) {t0 : Nat} {k n : Nat} {px' : String → St → Prop} {Qc : Array Value → State → Outcome → State → Prop} (h1 : kd S t0 = 3) (kk : K p l e rX11_hour s m args below meth c 7 w k n (vx_MQ below Qc (XCs w px') args s rX11_hour.cells rX11_hour.slots (wA w)) S 31 [(2, .ref t0), (3, .int (-1)), (4, .int 0), (5, .int 0)] []) : K p l e rX11_hour s m args below meth c 7 w k n (vx_MQ below Qc (XCs w px') args s rX11_hour.cells rX11_hour.slots (wA w)) S 19 [] [.ref t0] := by
  refine k_cast B 2 rfl (by decide) (in_of qkRX11_108) dX11_hour_19 h1 ?_
  refine k_astore_n (lst' := [(2, .ref t0)]) B rfl (by decide) rfl dX11_hour_22 ?_
  refine k_iconst (v := (-1)) B (by decide) dX11_hour_23 ?_
  refine k_istore_n (lst' := [(3, .int (-1)), (2, .ref t0)]) B rfl (by decide) rfl dX11_hour_24 ?_
  refine k_iconst (v := 0) B (by decide) dX11_hour_25 ?_
  refine k_istore (lst' := [(4, .int 0), (3, .int (-1)), (2, .ref t0)]) B (by decide) rfl dX11_hour_26 ?_
  refine k_iconst (v := 0) B (by decide) dX11_hour_28 ?_
  refine k_istore (lst' := [(5, .int 0), (4, .int 0), (3, .int (-1)), (2, .ref t0)]) B (by decide) rfl dX11_hour_29 ?_
  refine k_sub [3, 2, 1, 0] rfl ?_
  exact kk
theorem bX11_hour_31 (B : Bd p s m args meth c cX11_hour 7 (wsOf yX11_hour cX11_hour 7 (some .int)) RX11 w (some .int) "hour") (hl : l.stackTraces = false) (ht : ∀ x ∈ c.exceptionTable.toList, False) {v2 : Nat} {v3 : Int32} {v4 : Int32} {v5 : Int32} {k n : Nat} {px' : String → St → Prop} {Qc : Array Value → State → Outcome → State → Prop}  (kt : 24 ≤ v5 → K p l e rX11_hour s m args below meth c 7 w k n (vx_MQ below Qc (XCs w px') args s rX11_hour.cells rX11_hour.slots (wA w)) S 66 [(3, .int v3)] []) (kf : ¬ 24 ≤ v5 → K p l e rX11_hour s m args below meth c 7 w k n (vx_MQ below Qc (XCs w px') args s rX11_hour.cells rX11_hour.slots (wA w)) S 38 [(2, .ref v2), (3, .int v3), (4, .int v4), (5, .int v5)] []) : K p l e rX11_hour s m args below meth c 7 w k n (vx_MQ below Qc (XCs w px') args s rX11_hour.cells rX11_hour.slots (wA w)) S 31 [(2, .ref v2), (3, .int v3), (4, .int v4), (5, .int v5)] [] := by
  refine k_iload B 3 rfl dX11_hour_31 ?_
  refine k_bipush (v := 24) B (by decide) dX11_hour_33 ?_
  refine k_icmp_ge (tgt := 66) B dX11_hour_35 (by decide) (fun c => ?_) (fun c => ?_)
  · refine k_sub [1] rfl ?_
    exact kt c
  · exact kf c
theorem bX11_hour_38 (B : Bd p s m args meth c cX11_hour 7 (wsOf yX11_hour cX11_hour 7 (some .int)) RX11 w (some .int) "hour") (hl : l.stackTraces = false) (ht : ∀ x ∈ c.exceptionTable.toList, False) {v2 : Nat} {v3 : Int32} {v4 : Int32} {v5 : Int32} {post : Int32 → St → Prop} {k n : Nat} {px' : String → St → Prop} {Qc : Array Value → State → Outcome → State → Prop} (hc : ConI l yX1_hoursFrom (wsOf yX1_hoursFrom cX1_hoursFrom 4 (some .int)) rX1_hoursFrom w S [.ref v2, .int v5] post) (h1 : k + 0 ≤ rX11_hour.cells) (h2 : n + 0 ≤ rX11_hour.slots) (h3 : kd S v2 = 3) (kk : ∀ (r : Int32) (S' : St), post r S' → K p l e rX11_hour s m args below meth c 7 w k n (vx_MQ below Qc (XCs w px') args s rX11_hour.cells rX11_hour.slots (wA w)) S' 44 [(2, .ref v2), (3, .int v3), (4, .int v4), (5, .int v5)] [.int r]) : K p l e rX11_hour s m args below meth c 7 w k n (vx_MQ below Qc (XCs w px') args s rX11_hour.cells rX11_hour.slots (wA w)) S 38 [(2, .ref v2), (3, .int v3), (4, .int v4), (5, .int v5)] [] := by
  refine k_aload_n B 0 rfl rfl dX11_hour_38 ?_
  refine k_iload B 3 rfl dX11_hour_39 ?_
  refine callV_I (st := []) B [.int v5] (hc) (cwV 1 B.1.2.2.2.2 (gV qlRX11_289 qiX1_hoursFrom qeX1_hoursFrom qzRX1 qcX1_hoursFrom) rfl rfl rfl (by decide +kernel) ⟨Nat.le_of_ble_eq_true rfl, Nat.le_of_ble_eq_true rfl⟩) rfl rfl (by decide) h3 (Nat.le_of_ble_eq_true rfl) rfl dX11_hour_41 ⟨h1, h2⟩ (fun r S' hp => ?_)
  exact kk r S' hp
theorem bX11_hour_44 (B : Bd p s m args meth c cX11_hour 7 (wsOf yX11_hour cX11_hour 7 (some .int)) RX11 w (some .int) "hour") (hl : l.stackTraces = false) (ht : ∀ x ∈ c.exceptionTable.toList, False) {v2 : Nat} {v3 : Int32} {v4 : Int32} {v5 : Int32} {t0 : Int32} {k n : Nat} {px' : String → St → Prop} {Qc : Array Value → State → Outcome → State → Prop}  (kt : t0 ≤ v4 → K p l e rX11_hour s m args below meth c 7 w k n (vx_MQ below Qc (XCs w px') args s rX11_hour.cells rX11_hour.slots (wA w)) S 60 [(2, .ref v2), (3, .int v3), (4, .int v4), (5, .int v5)] []) (kf : ¬ t0 ≤ v4 → K p l e rX11_hour s m args below meth c 7 w k n (vx_MQ below Qc (XCs w px') args s rX11_hour.cells rX11_hour.slots (wA w)) S 53 [(2, .ref v2), (5, .int v5), (6, .int t0)] []) : K p l e rX11_hour s m args below meth c 7 w k n (vx_MQ below Qc (XCs w px') args s rX11_hour.cells rX11_hour.slots (wA w)) S 44 [(2, .ref v2), (3, .int v3), (4, .int v4), (5, .int v5)] [.int t0] := by
  refine k_istore (lst' := [(6, .int t0), (2, .ref v2), (3, .int v3), (4, .int v4), (5, .int v5)]) B (by decide) rfl dX11_hour_44 ?_
  refine k_iload B 0 rfl dX11_hour_46 ?_
  refine k_iload B 3 rfl dX11_hour_48 ?_
  refine k_icmp_le (tgt := 60) B dX11_hour_50 (by decide) (fun c => ?_) (fun c => ?_)
  · refine k_sub [1, 2, 3, 4] rfl ?_
    exact kt c
  · refine k_sub [1, 4, 0] rfl ?_
    exact kf c
theorem bX11_hour_53 (B : Bd p s m args meth c cX11_hour 7 (wsOf yX11_hour cX11_hour 7 (some .int)) RX11 w (some .int) "hour") (hl : l.stackTraces = false) (ht : ∀ x ∈ c.exceptionTable.toList, False) {v2 : Nat} {v5 : Int32} {v6 : Int32} {k n : Nat} {px' : String → St → Prop} {Qc : Array Value → State → Outcome → State → Prop}  (kk : K p l e rX11_hour s m args below meth c 7 w k n (vx_MQ below Qc (XCs w px') args s rX11_hour.cells rX11_hour.slots (wA w)) S 60 [(2, .ref v2), (3, .int v5), (4, .int v6), (5, .int v5)] []) : K p l e rX11_hour s m args below meth c 7 w k n (vx_MQ below Qc (XCs w px') args s rX11_hour.cells rX11_hour.slots (wA w)) S 53 [(2, .ref v2), (5, .int v5), (6, .int v6)] [] := by
  refine k_iload B 2 rfl dX11_hour_53 ?_
  refine k_istore (lst' := [(4, .int v6), (2, .ref v2), (5, .int v5), (6, .int v6)]) B (by decide) rfl dX11_hour_55 ?_
  refine k_iload B 2 rfl dX11_hour_57 ?_
  refine k_istore_n (lst' := [(3, .int v5), (4, .int v6), (2, .ref v2), (5, .int v5), (6, .int v6)]) B rfl (by decide) rfl dX11_hour_59 ?_
  refine k_sub [2, 0, 1, 3] rfl ?_
  exact kk
theorem bX11_hour_60 (B : Bd p s m args meth c cX11_hour 7 (wsOf yX11_hour cX11_hour 7 (some .int)) RX11 w (some .int) "hour") (hl : l.stackTraces = false) (ht : ∀ x ∈ c.exceptionTable.toList, False) {v2 : Nat} {v3 : Int32} {v4 : Int32} {v5 : Int32} {k n : Nat} {px' : String → St → Prop} {Qc : Array Value → State → Outcome → State → Prop}  (kk : K p l e rX11_hour s m args below meth c 7 w k n (vx_MQ below Qc (XCs w px') args s rX11_hour.cells rX11_hour.slots (wA w)) S 31 [(2, .ref v2), (3, .int v3), (4, .int v4), (5, .int (v5 + 1))] []) : K p l e rX11_hour s m args below meth c 7 w k n (vx_MQ below Qc (XCs w px') args s rX11_hour.cells rX11_hour.slots (wA w)) S 60 [(2, .ref v2), (3, .int v3), (4, .int v4), (5, .int v5)] [] := by
  refine k_iinc (v := v5 + 1) (lst' := [(5, .int (v5 + 1)), (2, .ref v2), (3, .int v3), (4, .int v4)]) B 3 rfl rfl (by decide) rfl dX11_hour_60 ?_
  refine k_goto (tgt := 31) B dX11_hour_63 (by decide) ?_
  refine k_sub [1, 2, 3, 0] rfl ?_
  exact kk
theorem bX11_hour_66 (B : Bd p s m args meth c cX11_hour 7 (wsOf yX11_hour cX11_hour 7 (some .int)) RX11 w (some .int) "hour") (hl : l.stackTraces = false) (ht : ∀ x ∈ c.exceptionTable.toList, False) {v3 : Int32} {post : Int32 → St → Prop} {k n : Nat} {px' : String → St → Prop} (h1 : k ≤ rX11_hour.cells) (h2 : n ≤ rX11_hour.slots) (hq : post v3 S) : K p l e rX11_hour s m args below meth c 7 w k n (vx_MQ below (va_Qi post (fun S' t => Hd w S' t.heap) (wA w)) (XCs w px') args s rX11_hour.cells rX11_hour.slots (wA w)) S 66 [(3, .int v3)] [] := by
  refine k_iload_n B 0 rfl rfl dX11_hour_66 ?_
  exact k_xret_I h1 h2 (ret_I B rfl dX11_hour_67 (hq))
theorem bX11_digest_0 (B : Bd p s m args meth c cX11_digest 4 (wsOf yX11_digest cX11_digest 4 (some .long)) RX11 w (some .long) "digest") {v0 : Nat} {Q : State → Prop}  (kk : K p l e rX11_digest s m args below meth c 4 w 0 0 Q S 6 [(0, .ref v0), (1, .long 859), (3, .int 0)] []) : K p l e rX11_digest s m args below meth c 4 w 0 0 Q S 0 [(0, .ref v0)] [] := by
  refine k_ldc2 (v := 859) B (in_of qtRX11_299) dX11_digest_0 ?_
  refine k_lstore_n (lst' := [(1, .long 859), (0, .ref v0)]) B rfl (by decide) rfl dX11_digest_3 ?_
  refine k_iconst (v := 0) B (by decide) dX11_digest_4 ?_
  refine k_istore_n (lst' := [(3, .int 0), (1, .long 859), (0, .ref v0)]) B rfl (by decide) rfl dX11_digest_5 ?_
  refine k_sub [2, 1, 0] rfl ?_
  exact kk
theorem bX11_digest_6 (B : Bd p s m args meth c cX11_digest 4 (wsOf yX11_digest cX11_digest 4 (some .long)) RX11 w (some .long) "digest") {v0 : Nat} {v1 : Int64} {v3 : Int32} {Q : State → Prop}  (kt : 12 ≤ v3 → K p l e rX11_digest s m args below meth c 4 w 0 0 Q S 29 [(0, .ref v0), (1, .long v1)] []) (kf : ¬ 12 ≤ v3 → K p l e rX11_digest s m args below meth c 4 w 0 0 Q S 12 [(0, .ref v0), (1, .long v1), (3, .int v3)] []) : K p l e rX11_digest s m args below meth c 4 w 0 0 Q S 6 [(0, .ref v0), (1, .long v1), (3, .int v3)] [] := by
  refine k_iload_n B 2 rfl rfl dX11_digest_6 ?_
  refine k_bipush (v := 12) B (by decide) dX11_digest_7 ?_
  refine k_icmp_ge (tgt := 29) B dX11_digest_9 (by decide) (fun c => ?_) (fun c => ?_)
  · refine k_sub [0, 1] rfl ?_
    exact kt c
  · exact kf c
theorem bX11_digest_12 (B : Bd p s m args meth c cX11_digest 4 (wsOf yX11_digest cX11_digest 4 (some .long)) RX11 w (some .long) "digest") {v0 : Nat} {v1 : Int64} {v3 : Int32} {post : Int32 → St → Prop} {Q : State → Prop} (hc : ConI l yX11_counted (wsOf yX11_counted cX11_counted 2 (some .int)) rX11_counted w S [.ref v0, .int v3] post) (h1 : kd S v0 = 13) (kk : ∀ (r : Int32) (S' : St), post r S' → K p l e rX11_digest s m args below meth c 4 w 0 0 Q S' 18 [(0, .ref v0), (3, .int v3)] [.int r, .long v1]) : K p l e rX11_digest s m args below meth c 4 w 0 0 Q S 12 [(0, .ref v0), (1, .long v1), (3, .int v3)] [] := by
  refine k_lload_n B 1 rfl rfl dX11_digest_12 ?_
  refine k_aload_n B 0 rfl rfl dX11_digest_13 ?_
  refine k_iload_n B 2 rfl rfl dX11_digest_14 ?_
  refine callV_I (st := [.long v1]) B [.int v3] (hc) (cwV 1 B.1.2.2.2.2 (gV qlRX11_267 qiX11_counted qeX11_counted qzRX11 qcX11_counted) rfl rfl rfl (by decide +kernel) ⟨Nat.le_of_ble_eq_true rfl, Nat.le_of_ble_eq_true rfl⟩) rfl rfl (by decide) h1 (Nat.le_of_ble_eq_true rfl) rfl dX11_digest_15 ⟨Nat.le_of_ble_eq_true rfl, Nat.le_of_ble_eq_true rfl⟩ (fun r S' hp => ?_)
  refine k_sub [0, 2] rfl ?_
  exact kk r S' hp
theorem bX11_digest_18 (B : Bd p s m args meth c cX11_digest 4 (wsOf yX11_digest cX11_digest 4 (some .long)) RX11 w (some .long) "digest") {v0 : Nat} {v3 : Int32} {t0 : Int64} {t1 : Int32} {post : Int64 → St → Prop} {Q : State → Prop} (hc : ConL l yX11_mixed (wsOf yX11_mixed cX11_mixed 4 (some .long)) rX11_mixed w S [.long t0, .long (t1.toInt64)] post) (kk : ∀ (r : Int64) (S' : St), post r S' → K p l e rX11_digest s m args below meth c 4 w 0 0 Q S' 22 [(0, .ref v0), (3, .int v3)] [.long r]) : K p l e rX11_digest s m args below meth c 4 w 0 0 Q S 18 [(0, .ref v0), (3, .int v3)] [.int t1, .long t0] := by
  refine k_i2l B dX11_digest_18 ?_
  refine callS_L (st := []) B [.long t0, .long (t1.toInt64)] (hc) (va_cwS 2 B.1.2.2.2.2 (gS qlRX11_301 qsX11_mixed qzRX11 qcX11_mixed) rfl rfl rfl (by decide +kernel) ⟨Nat.le_of_ble_eq_true rfl, Nat.le_of_ble_eq_true rfl⟩) rfl (Nat.le_of_ble_eq_true rfl) rfl dX11_digest_19 ⟨Nat.le_of_ble_eq_true rfl, Nat.le_of_ble_eq_true rfl⟩ (fun r S' hp => ?_)
  exact kk r S' hp
theorem bX11_digest_22 (B : Bd p s m args meth c cX11_digest 4 (wsOf yX11_digest cX11_digest 4 (some .long)) RX11 w (some .long) "digest") {v0 : Nat} {v3 : Int32} {t0 : Int64} {Q : State → Prop}  (kk : K p l e rX11_digest s m args below meth c 4 w 0 0 Q S 6 [(0, .ref v0), (1, .long t0), (3, .int (v3 + 1))] []) : K p l e rX11_digest s m args below meth c 4 w 0 0 Q S 22 [(0, .ref v0), (3, .int v3)] [.long t0] := by
  refine k_lstore_n (lst' := [(1, .long t0), (0, .ref v0), (3, .int v3)]) B rfl (by decide) rfl dX11_digest_22 ?_
  refine k_iinc (v := v3 + 1) (lst' := [(3, .int (v3 + 1)), (1, .long t0), (0, .ref v0)]) B 2 rfl rfl (by decide) rfl dX11_digest_23 ?_
  refine k_goto (tgt := 6) B dX11_digest_26 (by decide) ?_
  refine k_sub [2, 1, 0] rfl ?_
  exact kk
theorem bX11_digest_29 (B : Bd p s m args meth c cX11_digest 4 (wsOf yX11_digest cX11_digest 4 (some .long)) RX11 w (some .long) "digest") {v0 : Nat} {v1 : Int64} {Q : State → Prop}  (kk : K p l e rX11_digest s m args below meth c 4 w 0 0 Q S 31 [(0, .ref v0), (1, .long v1), (3, .int 0)] []) : K p l e rX11_digest s m args below meth c 4 w 0 0 Q S 29 [(0, .ref v0), (1, .long v1)] [] := by
  refine k_iconst (v := 0) B (by decide) dX11_digest_29 ?_
  refine k_istore_n (lst' := [(3, .int 0), (0, .ref v0), (1, .long v1)]) B rfl (by decide) rfl dX11_digest_30 ?_
  refine k_sub [1, 2, 0] rfl ?_
  exact kk
theorem bX11_digest_31 (B : Bd p s m args meth c cX11_digest 4 (wsOf yX11_digest cX11_digest 4 (some .long)) RX11 w (some .long) "digest") {v0 : Nat} {v1 : Int64} {v3 : Int32} {Q : State → Prop}  (kt : 24 ≤ v3 → K p l e rX11_digest s m args below meth c 4 w 0 0 Q S 58 [(0, .ref v0), (1, .long v1)] []) (kf : ¬ 24 ≤ v3 → K p l e rX11_digest s m args below meth c 4 w 0 0 Q S 37 [(0, .ref v0), (1, .long v1), (3, .int v3)] []) : K p l e rX11_digest s m args below meth c 4 w 0 0 Q S 31 [(0, .ref v0), (1, .long v1), (3, .int v3)] [] := by
  refine k_iload_n B 2 rfl rfl dX11_digest_31 ?_
  refine k_bipush (v := 24) B (by decide) dX11_digest_32 ?_
  refine k_icmp_ge (tgt := 58) B dX11_digest_34 (by decide) (fun c => ?_) (fun c => ?_)
  · refine k_sub [0, 1] rfl ?_
    exact kt c
  · exact kf c
theorem bX11_digest_37 (B : Bd p s m args meth c cX11_digest 4 (wsOf yX11_digest cX11_digest 4 (some .long)) RX11 w (some .long) "digest") {v0 : Nat} {v1 : Int64} {v3 : Int32} {x1 : Nat} {x2 : Nat} {post : Int64 → St → Prop} {Q : State → Prop} (h1 : kd S v0 = 13) (h2 : gP S 768 v0 = some x1) (h3 : kd S x1 = 10) (h4 : gP S 576 x1 = some x2) (h5 : kd S x2 = 21) (h6 : vp_in v3 (ln S x2)) (hc : ConL l yX11_mixed (wsOf yX11_mixed cX11_mixed 4 (some .long)) rX11_mixed w S [.long v1, .long (((rI S x2) v3.toNatClampNeg).toInt64)] post) (kk : ∀ (r : Int64) (S' : St), post r S' → K p l e rX11_digest s m args below meth c 4 w 0 0 Q S' 51 [(0, .ref v0), (3, .int v3)] [.long r]) : K p l e rX11_digest s m args below meth c 4 w 0 0 Q S 37 [(0, .ref v0), (1, .long v1), (3, .int v3)] [] := by
  refine k_lload_n B 1 rfl rfl dX11_digest_37 ?_
  refine k_aload_n B 0 rfl rfl dX11_digest_38 ?_
  refine k_getP (f := 768) (r := gP S 768 v0) B 12 0 rfl (by decide) rfl (by decide) rfl rfl (fun w h => in_of (uw_12 w h)) (in_of qfRX11_10) dX11_digest_39 h1 rfl ?_
  rw [h2]; change K _ _ _ _ _ _ _ _ _ _ _ _ _ _ _ _ _ _ (.ref x1 :: _)
  refine k_getP (f := 576) (r := gP S 576 x1) B 9 0 rfl (by decide) rfl (by decide) rfl rfl (fun w h => in_of (uw_9 w h)) (in_of qfRX11_79) dX11_digest_42 h3 rfl ?_
  rw [h4]; change K _ _ _ _ _ _ _ _ _ _ _ _ _ _ _ _ _ _ (.ref x2 :: _)
  refine k_iload_n B 2 rfl rfl dX11_digest_45 ?_
  refine k_iald (v := (rI S x2) v3.toNatClampNeg) B dX11_digest_46 h5 h6 rfl ?_
  refine k_i2l B dX11_digest_47 ?_
  refine callS_L (st := []) B [.long v1, .long (((rI S x2) v3.toNatClampNeg).toInt64)] (hc) (va_cwS 2 B.1.2.2.2.2 (gS qlRX11_301 qsX11_mixed qzRX11 qcX11_mixed) rfl rfl rfl (by decide +kernel) ⟨Nat.le_of_ble_eq_true rfl, Nat.le_of_ble_eq_true rfl⟩) rfl (Nat.le_of_ble_eq_true rfl) rfl dX11_digest_48 ⟨Nat.le_of_ble_eq_true rfl, Nat.le_of_ble_eq_true rfl⟩ (fun r S' hp => ?_)
  refine k_sub [0, 2] rfl ?_
  exact kk r S' hp
theorem bX11_digest_51 (B : Bd p s m args meth c cX11_digest 4 (wsOf yX11_digest cX11_digest 4 (some .long)) RX11 w (some .long) "digest") {v0 : Nat} {v3 : Int32} {t0 : Int64} {Q : State → Prop}  (kk : K p l e rX11_digest s m args below meth c 4 w 0 0 Q S 31 [(0, .ref v0), (1, .long t0), (3, .int (v3 + 1))] []) : K p l e rX11_digest s m args below meth c 4 w 0 0 Q S 51 [(0, .ref v0), (3, .int v3)] [.long t0] := by
  refine k_lstore_n (lst' := [(1, .long t0), (0, .ref v0), (3, .int v3)]) B rfl (by decide) rfl dX11_digest_51 ?_
  refine k_iinc (v := v3 + 1) (lst' := [(3, .int (v3 + 1)), (1, .long t0), (0, .ref v0)]) B 2 rfl rfl (by decide) rfl dX11_digest_52 ?_
  refine k_goto (tgt := 31) B dX11_digest_55 (by decide) ?_
  refine k_sub [2, 1, 0] rfl ?_
  exact kk
theorem bX11_digest_58 (B : Bd p s m args meth c cX11_digest 4 (wsOf yX11_digest cX11_digest 4 (some .long)) RX11 w (some .long) "digest") {v0 : Nat} {v1 : Int64} {x1 : Nat} {x2 : Nat} {post : Int64 → St → Prop} {Q : State → Prop} (h1 : kd S v0 = 13) (h2 : gP S 768 v0 = some x1) (h3 : kd S x1 = 10) (h4 : gP S 577 x1 = some x2) (h5 : kd S x2 = 6) (hc : ConL l yX11_mixed (wsOf yX11_mixed cX11_mixed 4 (some .long)) rX11_mixed w S [.long v1, .long ((gI S 320 x2).toInt64)] post) (kk : ∀ (r : Int64) (S' : St), post r S' → K p l e rX11_digest s m args below meth c 4 w 0 0 Q S' 73 [(0, .ref v0)] [.long r]) : K p l e rX11_digest s m args below meth c 4 w 0 0 Q S 58 [(0, .ref v0), (1, .long v1)] [] := by
  refine k_lload_n B 1 rfl rfl dX11_digest_58 ?_
  refine k_aload_n B 0 rfl rfl dX11_digest_59 ?_
  refine k_getP (f := 768) (r := gP S 768 v0) B 12 0 rfl (by decide) rfl (by decide) rfl rfl (fun w h => in_of (uw_12 w h)) (in_of qfRX11_10) dX11_digest_60 h1 rfl ?_
  rw [h2]; change K _ _ _ _ _ _ _ _ _ _ _ _ _ _ _ _ _ _ (.ref x1 :: _)
  refine k_getP (f := 577) (r := gP S 577 x1) B 9 1 rfl (by decide) rfl (by decide) rfl rfl (fun w h => in_of (uw_9 w h)) (in_of qfRX11_86) dX11_digest_63 h3 rfl ?_
  rw [h4]; change K _ _ _ _ _ _ _ _ _ _ _ _ _ _ _ _ _ _ (.ref x2 :: _)
  refine k_getI (f := 320) (v := gI S 320 x2) B 5 0 rfl (by decide) rfl (by decide) rfl rfl (fun w h => in_of (uw_5 w h)) (in_of qfRX11_94) dX11_digest_66 h5 rfl ?_
  refine k_i2l B dX11_digest_69 ?_
  refine callS_L (st := []) B [.long v1, .long ((gI S 320 x2).toInt64)] (hc) (va_cwS 2 B.1.2.2.2.2 (gS qlRX11_301 qsX11_mixed qzRX11 qcX11_mixed) rfl rfl rfl (by decide +kernel) ⟨Nat.le_of_ble_eq_true rfl, Nat.le_of_ble_eq_true rfl⟩) rfl (Nat.le_of_ble_eq_true rfl) rfl dX11_digest_70 ⟨Nat.le_of_ble_eq_true rfl, Nat.le_of_ble_eq_true rfl⟩ (fun r S' hp => ?_)
  refine k_sub [0] rfl ?_
  exact kk r S' hp
theorem bX11_digest_73 (B : Bd p s m args meth c cX11_digest 4 (wsOf yX11_digest cX11_digest 4 (some .long)) RX11 w (some .long) "digest") {v0 : Nat} {t0 : Int64} {x1 : Nat} {x2 : Nat} {post : Int64 → St → Prop} {Q : State → Prop} (h1 : kd S v0 = 13) (h2 : gP S 768 v0 = some x1) (h3 : kd S x1 = 10) (h4 : gP S 577 x1 = some x2) (h5 : kd S x2 = 6) (hc : ConL l yX11_mixed (wsOf yX11_mixed cX11_mixed 4 (some .long)) rX11_mixed w S [.long t0, .long ((gI S 321 x2).toInt64)] post) (kk : ∀ (r : Int64) (S' : St), post r S' → K p l e rX11_digest s m args below meth c 4 w 0 0 Q S' 89 [(0, .ref v0)] [.long r]) : K p l e rX11_digest s m args below meth c 4 w 0 0 Q S 73 [(0, .ref v0)] [.long t0] := by
  refine k_lstore_n (lst' := [(1, .long t0), (0, .ref v0)]) B rfl (by decide) rfl dX11_digest_73 ?_
  refine k_lload_n B 0 rfl rfl dX11_digest_74 ?_
  refine k_aload_n B 1 rfl rfl dX11_digest_75 ?_
  refine k_getP (f := 768) (r := gP S 768 v0) B 12 0 rfl (by decide) rfl (by decide) rfl rfl (fun w h => in_of (uw_12 w h)) (in_of qfRX11_10) dX11_digest_76 h1 rfl ?_
  rw [h2]; change K _ _ _ _ _ _ _ _ _ _ _ _ _ _ _ _ _ _ (.ref x1 :: _)
  refine k_getP (f := 577) (r := gP S 577 x1) B 9 1 rfl (by decide) rfl (by decide) rfl rfl (fun w h => in_of (uw_9 w h)) (in_of qfRX11_86) dX11_digest_79 h3 rfl ?_
  rw [h4]; change K _ _ _ _ _ _ _ _ _ _ _ _ _ _ _ _ _ _ (.ref x2 :: _)
  refine k_getI (f := 321) (v := gI S 321 x2) B 5 1 rfl (by decide) rfl (by decide) rfl rfl (fun w h => in_of (uw_5 w h)) (in_of qfRX11_97) dX11_digest_82 h5 rfl ?_
  refine k_i2l B dX11_digest_85 ?_
  refine callS_L (st := []) B [.long t0, .long ((gI S 321 x2).toInt64)] (hc) (va_cwS 2 B.1.2.2.2.2 (gS qlRX11_301 qsX11_mixed qzRX11 qcX11_mixed) rfl rfl rfl (by decide +kernel) ⟨Nat.le_of_ble_eq_true rfl, Nat.le_of_ble_eq_true rfl⟩) rfl (Nat.le_of_ble_eq_true rfl) rfl dX11_digest_86 ⟨Nat.le_of_ble_eq_true rfl, Nat.le_of_ble_eq_true rfl⟩ (fun r S' hp => ?_)
  refine k_sub [1] rfl ?_
  exact kk r S' hp
theorem bX11_digest_89 (B : Bd p s m args meth c cX11_digest 4 (wsOf yX11_digest cX11_digest 4 (some .long)) RX11 w (some .long) "digest") {v0 : Nat} {t0 : Int64} {post : Int64 → St → Prop} {Q : State → Prop} (hc : ConL l yX11_withHomes (wsOf yX11_withHomes cX11_withHomes 8 (some .long)) rX11_withHomes w S [.ref v0, .long t0] post) (h1 : kd S v0 = 13) (kk : ∀ (r : Int64) (S' : St), post r S' → K p l e rX11_digest s m args below meth c 4 w 0 0 Q S' 95 [(0, .ref v0)] [.long r]) : K p l e rX11_digest s m args below meth c 4 w 0 0 Q S 89 [(0, .ref v0)] [.long t0] := by
  refine k_lstore_n (lst' := [(1, .long t0), (0, .ref v0)]) B rfl (by decide) rfl dX11_digest_89 ?_
  refine k_aload_n B 1 rfl rfl dX11_digest_90 ?_
  refine k_lload_n B 0 rfl rfl dX11_digest_91 ?_
  refine callV_L (st := []) B [.long t0] (hc) (cwV 1 B.1.2.2.2.2 (gV qlRX11_305 qiX11_withHomes qeX11_withHomes qzRX11 qcX11_withHomes) rfl rfl rfl (by decide +kernel) ⟨Nat.le_of_ble_eq_true rfl, Nat.le_of_ble_eq_true rfl⟩) rfl rfl (by decide) h1 (Nat.le_of_ble_eq_true rfl) rfl dX11_digest_92 ⟨Nat.le_of_ble_eq_true rfl, Nat.le_of_ble_eq_true rfl⟩ (fun r S' hp => ?_)
  refine k_sub [1] rfl ?_
  exact kk r S' hp
theorem bX11_digest_95 (B : Bd p s m args meth c cX11_digest 4 (wsOf yX11_digest cX11_digest 4 (some .long)) RX11 w (some .long) "digest") {v0 : Nat} {t0 : Int64} {post : Int64 → St → Prop} {Q : State → Prop} (hc : ConL l yX11_withLockers (wsOf yX11_withLockers cX11_withLockers 7 (some .long)) rX11_withLockers w S [.ref v0, .long t0] post) (h1 : kd S v0 = 13) (kk : ∀ (r : Int64) (S' : St), post r S' → K p l e rX11_digest s m args below meth c 4 w 0 0 Q S' 101 [(0, .ref v0)] [.long r]) : K p l e rX11_digest s m args below meth c 4 w 0 0 Q S 95 [(0, .ref v0)] [.long t0] := by
  refine k_lstore_n (lst' := [(1, .long t0), (0, .ref v0)]) B rfl (by decide) rfl dX11_digest_95 ?_
  refine k_aload_n B 1 rfl rfl dX11_digest_96 ?_
  refine k_lload_n B 0 rfl rfl dX11_digest_97 ?_
  refine callV_L (st := []) B [.long t0] (hc) (cwV 1 B.1.2.2.2.2 (gV qlRX11_309 qiX11_withLockers qeX11_withLockers qzRX11 qcX11_withLockers) rfl rfl rfl (by decide +kernel) ⟨Nat.le_of_ble_eq_true rfl, Nat.le_of_ble_eq_true rfl⟩) rfl rfl (by decide) h1 (Nat.le_of_ble_eq_true rfl) rfl dX11_digest_98 ⟨Nat.le_of_ble_eq_true rfl, Nat.le_of_ble_eq_true rfl⟩ (fun r S' hp => ?_)
  refine k_sub [1] rfl ?_
  exact kk r S' hp
theorem bX11_digest_101 (B : Bd p s m args meth c cX11_digest 4 (wsOf yX11_digest cX11_digest 4 (some .long)) RX11 w (some .long) "digest") {v0 : Nat} {t0 : Int64} {post : Int64 → St → Prop} {Q : State → Prop} (hc : ConL l yX11_withParcels (wsOf yX11_withParcels cX11_withParcels 7 (some .long)) rX11_withParcels w S [.ref v0, .long t0] post) (h1 : kd S v0 = 13) (kk : ∀ (r : Int64) (S' : St), post r S' → K p l e rX11_digest s m args below meth c 4 w 0 0 Q S' 107 [(0, .ref v0)] [.long r]) : K p l e rX11_digest s m args below meth c 4 w 0 0 Q S 101 [(0, .ref v0)] [.long t0] := by
  refine k_lstore_n (lst' := [(1, .long t0), (0, .ref v0)]) B rfl (by decide) rfl dX11_digest_101 ?_
  refine k_aload_n B 1 rfl rfl dX11_digest_102 ?_
  refine k_lload_n B 0 rfl rfl dX11_digest_103 ?_
  refine callV_L (st := []) B [.long t0] (hc) (cwV 1 B.1.2.2.2.2 (gV qlRX11_312 qiX11_withParcels qeX11_withParcels qzRX11 qcX11_withParcels) rfl rfl rfl (by decide +kernel) ⟨Nat.le_of_ble_eq_true rfl, Nat.le_of_ble_eq_true rfl⟩) rfl rfl (by decide) h1 (Nat.le_of_ble_eq_true rfl) rfl dX11_digest_104 ⟨Nat.le_of_ble_eq_true rfl, Nat.le_of_ble_eq_true rfl⟩ (fun r S' hp => ?_)
  refine k_sub [1] rfl ?_
  exact kk r S' hp
theorem bX11_digest_107 (B : Bd p s m args meth c cX11_digest 4 (wsOf yX11_digest cX11_digest 4 (some .long)) RX11 w (some .long) "digest") {v0 : Nat} {t0 : Int64} {post : Int64 → St → Prop} {Q : State → Prop} (hc : ConL l yX11_withVans (wsOf yX11_withVans cX11_withVans 8 (some .long)) rX11_withVans w S [.ref v0, .long t0] post) (h1 : kd S v0 = 13) (kk : ∀ (r : Int64) (S' : St), post r S' → K p l e rX11_digest s m args below meth c 4 w 0 0 Q S' 113 [] [.long r]) : K p l e rX11_digest s m args below meth c 4 w 0 0 Q S 107 [(0, .ref v0)] [.long t0] := by
  refine k_lstore_n (lst' := [(1, .long t0), (0, .ref v0)]) B rfl (by decide) rfl dX11_digest_107 ?_
  refine k_aload_n B 1 rfl rfl dX11_digest_108 ?_
  refine k_lload_n B 0 rfl rfl dX11_digest_109 ?_
  refine callV_L (st := []) B [.long t0] (hc) (cwV 1 B.1.2.2.2.2 (gV qlRX11_315 qiX11_withVans qeX11_withVans qzRX11 qcX11_withVans) rfl rfl rfl (by decide +kernel) ⟨Nat.le_of_ble_eq_true rfl, Nat.le_of_ble_eq_true rfl⟩) rfl rfl (by decide) h1 (Nat.le_of_ble_eq_true rfl) rfl dX11_digest_110 ⟨Nat.le_of_ble_eq_true rfl, Nat.le_of_ble_eq_true rfl⟩ (fun r S' hp => ?_)
  refine k_sub [] rfl ?_
  exact kk r S' hp
theorem bX11_digest_113 (B : Bd p s m args meth c cX11_digest 4 (wsOf yX11_digest cX11_digest 4 (some .long)) RX11 w (some .long) "digest") {t0 : Int64} {post : Int64 → St → Prop}  (hq : post t0 S) : K p l e rX11_digest s m args below meth c 4 w 0 0 (MQ below (va_Ql post (fun S' t => Hd w S' t.heap) (wA w)) args s 0 0 (wA w)) S 113 [] [.long t0] := by
  exact ret_L B rfl dX11_digest_113 (hq)
theorem bX11_needIndex_0 (B : Bd p s m args meth c cX11_needIndex 2 (wsOf yX11_needIndex cX11_needIndex 2 none) RX11 w none "needIndex") (hl : l.stackTraces = false) (ht : ∀ x ∈ c.exceptionTable.toList, False) {v0 : Int32} {v1 : Int32} {k n : Nat} {px' : String → St → Prop} {Qc : Array Value → State → Outcome → State → Prop}  (kt : v0 < 0 → K p l e rX11_needIndex s m args below meth c 2 w k n (vx_MQ below Qc (XCs w px') args s rX11_needIndex.cells rX11_needIndex.slots (wA w)) S 9 [] []) (kf : ¬ v0 < 0 → K p l e rX11_needIndex s m args below meth c 2 w k n (vx_MQ below Qc (XCs w px') args s rX11_needIndex.cells rX11_needIndex.slots (wA w)) S 4 [(0, .int v0), (1, .int v1)] []) : K p l e rX11_needIndex s m args below meth c 2 w k n (vx_MQ below Qc (XCs w px') args s rX11_needIndex.cells rX11_needIndex.slots (wA w)) S 0 [(0, .int v0), (1, .int v1)] [] := by
  refine k_iload_n B 0 rfl rfl dX11_needIndex_0 ?_
  refine k_if_lt (tgt := 9) B dX11_needIndex_1 (by decide) (fun c => ?_) (fun c => ?_)
  · refine k_sub [] rfl ?_
    exact kt c
  · exact kf c
theorem bX11_needIndex_4 (B : Bd p s m args meth c cX11_needIndex 2 (wsOf yX11_needIndex cX11_needIndex 2 none) RX11 w none "needIndex") (hl : l.stackTraces = false) (ht : ∀ x ∈ c.exceptionTable.toList, False) {v0 : Int32} {v1 : Int32} {k n : Nat} {px' : String → St → Prop} {Qc : Array Value → State → Outcome → State → Prop}  (kt : v0 < v1 → K p l e rX11_needIndex s m args below meth c 2 w k n (vx_MQ below Qc (XCs w px') args s rX11_needIndex.cells rX11_needIndex.slots (wA w)) S 20 [] []) (kf : ¬ v0 < v1 → K p l e rX11_needIndex s m args below meth c 2 w k n (vx_MQ below Qc (XCs w px') args s rX11_needIndex.cells rX11_needIndex.slots (wA w)) S 9 [] []) : K p l e rX11_needIndex s m args below meth c 2 w k n (vx_MQ below Qc (XCs w px') args s rX11_needIndex.cells rX11_needIndex.slots (wA w)) S 4 [(0, .int v0), (1, .int v1)] [] := by
  refine k_iload_n B 0 rfl rfl dX11_needIndex_4 ?_
  refine k_iload_n B 1 rfl rfl dX11_needIndex_5 ?_
  refine k_icmp_lt (tgt := 20) B dX11_needIndex_6 (by decide) (fun c => ?_) (fun c => ?_)
  · refine k_sub [] rfl ?_
    exact kt c
  · refine k_sub [] rfl ?_
    exact kf c
theorem bX11_needIndex_9 (B : Bd p s m args meth c cX11_needIndex 2 (wsOf yX11_needIndex cX11_needIndex 2 none) RX11 w none "needIndex") (hl : l.stackTraces = false) (ht : ∀ x ∈ c.exceptionTable.toList, False) {k n : Nat} {px' : String → St → Prop} {Qc : Array Value → State → Outcome → State → Prop} (h1 : k + 1 ≤ rX11_needIndex.cells) (h2 : n + 6 ≤ rX11_needIndex.slots) (hx : px' nIO S) : K p l e rX11_needIndex s m args below meth c 2 w k n (vx_MQ below Qc (XCs w px') args s rX11_needIndex.cells rX11_needIndex.slots (wA w)) S 9 [] [] := by
  exact k_throwSW B hl ht (cls := nIO) (in_of qkRX11_318) (in_of qz_nIO) (List.mem_of_getElem? (i := 3) rfl) (hat_of B (fun w h => in_of h) at1_nIO at2_nIO (List.mem_of_getElem? (i := 0) rfl)) at3_nIO at4_nIO dX11_needIndex_9 dX11_needIndex_12 dX11_needIndex_13 dX11_needIndex_16 dX11_needIndex_19 (Nat.le_of_ble_eq_true rfl) (Nat.le_of_ble_eq_true rfl) h1 h2 h1 h2 (hx)
theorem bX11_needIndex_20 (B : Bd p s m args meth c cX11_needIndex 2 (wsOf yX11_needIndex cX11_needIndex 2 none) RX11 w none "needIndex") (hl : l.stackTraces = false) (ht : ∀ x ∈ c.exceptionTable.toList, False) {post : St → Prop} {k n : Nat} {px' : String → St → Prop} (h1 : k ≤ rX11_needIndex.cells) (h2 : n ≤ rX11_needIndex.slots) (hq : post S) : K p l e rX11_needIndex s m args below meth c 2 w k n (vx_MQ below (va_Qv post (fun S' t => Hd w S' t.heap) (wA w)) (XCs w px') args s rX11_needIndex.cells rX11_needIndex.slots (wA w)) S 20 [] [] := by
  exact k_xret_V h1 h2 (ret_V B rfl dX11_needIndex_20 (hq))
theorem bX11_needRange_0 (B : Bd p s m args meth c cX11_needRange 3 (wsOf yX11_needRange cX11_needRange 3 none) RX11 w none "needRange") (hl : l.stackTraces = false) (ht : ∀ x ∈ c.exceptionTable.toList, False) {v0 : Int32} {v1 : Int32} {v2 : Int32} {k n : Nat} {px' : String → St → Prop} {Qc : Array Value → State → Outcome → State → Prop}  (kt : v0 < v1 → K p l e rX11_needRange s m args below meth c 3 w k n (vx_MQ below Qc (XCs w px') args s rX11_needRange.cells rX11_needRange.slots (wA w)) S 10 [] []) (kf : ¬ v0 < v1 → K p l e rX11_needRange s m args below meth c 3 w k n (vx_MQ below Qc (XCs w px') args s rX11_needRange.cells rX11_needRange.slots (wA w)) S 5 [(0, .int v0), (2, .int v2)] []) : K p l e rX11_needRange s m args below meth c 3 w k n (vx_MQ below Qc (XCs w px') args s rX11_needRange.cells rX11_needRange.slots (wA w)) S 0 [(0, .int v0), (1, .int v1), (2, .int v2)] [] := by
  refine k_iload_n B 0 rfl rfl dX11_needRange_0 ?_
  refine k_iload_n B 1 rfl rfl dX11_needRange_1 ?_
  refine k_icmp_lt (tgt := 10) B dX11_needRange_2 (by decide) (fun c => ?_) (fun c => ?_)
  · refine k_sub [] rfl ?_
    exact kt c
  · refine k_sub [0, 2] rfl ?_
    exact kf c
theorem bX11_needRange_5 (B : Bd p s m args meth c cX11_needRange 3 (wsOf yX11_needRange cX11_needRange 3 none) RX11 w none "needRange") (hl : l.stackTraces = false) (ht : ∀ x ∈ c.exceptionTable.toList, False) {v0 : Int32} {v2 : Int32} {k n : Nat} {px' : String → St → Prop} {Qc : Array Value → State → Outcome → State → Prop}  (kt : v0 ≤ v2 → K p l e rX11_needRange s m args below meth c 3 w k n (vx_MQ below Qc (XCs w px') args s rX11_needRange.cells rX11_needRange.slots (wA w)) S 21 [] []) (kf : ¬ v0 ≤ v2 → K p l e rX11_needRange s m args below meth c 3 w k n (vx_MQ below Qc (XCs w px') args s rX11_needRange.cells rX11_needRange.slots (wA w)) S 10 [] []) : K p l e rX11_needRange s m args below meth c 3 w k n (vx_MQ below Qc (XCs w px') args s rX11_needRange.cells rX11_needRange.slots (wA w)) S 5 [(0, .int v0), (2, .int v2)] [] := by
  refine k_iload_n B 0 rfl rfl dX11_needRange_5 ?_
  refine k_iload_n B 1 rfl rfl dX11_needRange_6 ?_
  refine k_icmp_le (tgt := 21) B dX11_needRange_7 (by decide) (fun c => ?_) (fun c => ?_)
  · refine k_sub [] rfl ?_
    exact kt c
  · refine k_sub [] rfl ?_
    exact kf c
theorem bX11_needRange_10 (B : Bd p s m args meth c cX11_needRange 3 (wsOf yX11_needRange cX11_needRange 3 none) RX11 w none "needRange") (hl : l.stackTraces = false) (ht : ∀ x ∈ c.exceptionTable.toList, False) {k n : Nat} {px' : String → St → Prop} {Qc : Array Value → State → Outcome → State → Prop} (h1 : k + 1 ≤ rX11_needRange.cells) (h2 : n + 6 ≤ rX11_needRange.slots) (hx : px' nIA S) : K p l e rX11_needRange s m args below meth c 3 w k n (vx_MQ below Qc (XCs w px') args s rX11_needRange.cells rX11_needRange.slots (wA w)) S 10 [] [] := by
  exact k_throwSW B hl ht (cls := nIA) (in_of qkRX11_117) (in_of qz_nIA) (List.mem_of_getElem? (i := 4) rfl) (hat_of B (fun w h => in_of h) at1_nIA at2_nIA (List.mem_of_getElem? (i := 1) rfl)) at3_nIA at4_nIA dX11_needRange_10 dX11_needRange_13 dX11_needRange_14 dX11_needRange_17 dX11_needRange_20 (Nat.le_of_ble_eq_true rfl) (Nat.le_of_ble_eq_true rfl) h1 h2 h1 h2 (hx)
theorem bX11_needRange_21 (B : Bd p s m args meth c cX11_needRange 3 (wsOf yX11_needRange cX11_needRange 3 none) RX11 w none "needRange") (hl : l.stackTraces = false) (ht : ∀ x ∈ c.exceptionTable.toList, False) {post : St → Prop} {k n : Nat} {px' : String → St → Prop} (h1 : k ≤ rX11_needRange.cells) (h2 : n ≤ rX11_needRange.slots) (hq : post S) : K p l e rX11_needRange s m args below meth c 3 w k n (vx_MQ below (va_Qv post (fun S' t => Hd w S' t.heap) (wA w)) (XCs w px') args s rX11_needRange.cells rX11_needRange.slots (wA w)) S 21 [] [] := by
  exact k_xret_V h1 h2 (ret_V B rfl dX11_needRange_21 (hq))
theorem bX11_needPlace_0 (B : Bd p s m args meth c cX11_needPlace 2 (wsOf yX11_needPlace cX11_needPlace 2 none) RX11 w none "needPlace") (hl : l.stackTraces = false) (ht : ∀ x ∈ c.exceptionTable.toList, False) {v0 : Int32} {v1 : Int32} {px : String → St → Prop} {post : St → Prop} {k n : Nat} {px' : String → St → Prop} {Qc : Array Value → State → Outcome → State → Prop} (hc : ConXV l yX11_needRange (wsOf yX11_needRange cX11_needRange 3 none) rX11_needRange w S [.int v0, .int 0, .int 60] post px) (h1 : k + 1 ≤ rX11_needPlace.cells) (h2 : n + 6 ≤ rX11_needPlace.slots) (kx : ∀ (E : String) (S' : St), px E S' → px' E S') (kk : ∀ (S' : St), post S' → K p l e rX11_needPlace s m args below meth c 2 w (k + 1) (n + 6) (vx_MQ below Qc (XCs w px') args s rX11_needPlace.cells rX11_needPlace.slots (wA w)) S' 7 [(1, .int v1)] []) : K p l e rX11_needPlace s m args below meth c 2 w k n (vx_MQ below Qc (XCs w px') args s rX11_needPlace.cells rX11_needPlace.slots (wA w)) S 0 [(0, .int v0), (1, .int v1)] [] := by
  refine k_iload_n B 0 rfl rfl dX11_needPlace_0 ?_
  refine k_iconst (v := 0) B (by decide) dX11_needPlace_1 ?_
  refine k_bipush (v := 60) B (by decide) dX11_needPlace_2 ?_
  refine tcallS_V (st := []) B ht [.int v0, .int 0, .int 60] (hc) (va_cwS 3 B.1.2.2.2.2 (gS qlRX11_75 qsX11_needRange qzRX11 qcX11_needRange) rfl rfl rfl (by decide +kernel) ⟨Nat.le_of_ble_eq_true rfl, Nat.le_of_ble_eq_true rfl⟩) rfl (Nat.le_of_ble_eq_true rfl) rfl dX11_needPlace_4 ⟨h1, h2⟩ ⟨h1, h2⟩ (kx) (fun S' hp => ?_)
  refine k_sub [1] rfl ?_
  exact kk S' hp
theorem bX11_needPlace_7 (B : Bd p s m args meth c cX11_needPlace 2 (wsOf yX11_needPlace cX11_needPlace 2 none) RX11 w none "needPlace") (hl : l.stackTraces = false) (ht : ∀ x ∈ c.exceptionTable.toList, False) {v1 : Int32} {px : String → St → Prop} {post : St → Prop} {k n : Nat} {px' : String → St → Prop} {Qc : Array Value → State → Outcome → State → Prop} (hc : ConXV l yX11_needRange (wsOf yX11_needRange cX11_needRange 3 none) rX11_needRange w S [.int v1, .int 0, .int 60] post px) (h1 : k + 1 ≤ rX11_needPlace.cells) (h2 : n + 6 ≤ rX11_needPlace.slots) (kx : ∀ (E : String) (S' : St), px E S' → px' E S') (kk : ∀ (S' : St), post S' → K p l e rX11_needPlace s m args below meth c 2 w (k + 1) (n + 6) (vx_MQ below Qc (XCs w px') args s rX11_needPlace.cells rX11_needPlace.slots (wA w)) S' 14 [] []) : K p l e rX11_needPlace s m args below meth c 2 w k n (vx_MQ below Qc (XCs w px') args s rX11_needPlace.cells rX11_needPlace.slots (wA w)) S 7 [(1, .int v1)] [] := by
  refine k_iload_n B 0 rfl rfl dX11_needPlace_7 ?_
  refine k_iconst (v := 0) B (by decide) dX11_needPlace_8 ?_
  refine k_bipush (v := 60) B (by decide) dX11_needPlace_9 ?_
  refine tcallS_V (st := []) B ht [.int v1, .int 0, .int 60] (hc) (va_cwS 3 B.1.2.2.2.2 (gS qlRX11_75 qsX11_needRange qzRX11 qcX11_needRange) rfl rfl rfl (by decide +kernel) ⟨Nat.le_of_ble_eq_true rfl, Nat.le_of_ble_eq_true rfl⟩) rfl (Nat.le_of_ble_eq_true rfl) rfl dX11_needPlace_11 ⟨h1, h2⟩ ⟨h1, h2⟩ (kx) (fun S' hp => ?_)
  refine k_sub [] rfl ?_
  exact kk S' hp
theorem bX11_needPlace_14 (B : Bd p s m args meth c cX11_needPlace 2 (wsOf yX11_needPlace cX11_needPlace 2 none) RX11 w none "needPlace") (hl : l.stackTraces = false) (ht : ∀ x ∈ c.exceptionTable.toList, False) {post : St → Prop} {k n : Nat} {px' : String → St → Prop} (h1 : k ≤ rX11_needPlace.cells) (h2 : n ≤ rX11_needPlace.slots) (hq : post S) : K p l e rX11_needPlace s m args below meth c 2 w k n (vx_MQ below (va_Qv post (fun S' t => Hd w S' t.heap) (wA w)) (XCs w px') args s rX11_needPlace.cells rX11_needPlace.slots (wA w)) S 14 [] [] := by
  exact k_xret_V h1 h2 (ret_V B rfl dX11_needPlace_14 (hq))
theorem bX11_needSpace_0 (B : Bd p s m args meth c cX11_needSpace 2 (wsOf yX11_needSpace cX11_needSpace 2 none) RX11 w none "needSpace") (hl : l.stackTraces = false) (ht : ∀ x ∈ c.exceptionTable.toList, False) {v0 : Int32} {v1 : Int32} {k n : Nat} {px' : String → St → Prop} {Qc : Array Value → State → Outcome → State → Prop}  (kt : v0 < v1 → K p l e rX11_needSpace s m args below meth c 2 w k n (vx_MQ below Qc (XCs w px') args s rX11_needSpace.cells rX11_needSpace.slots (wA w)) S 16 [] []) (kf : ¬ v0 < v1 → K p l e rX11_needSpace s m args below meth c 2 w k n (vx_MQ below Qc (XCs w px') args s rX11_needSpace.cells rX11_needSpace.slots (wA w)) S 5 [] []) : K p l e rX11_needSpace s m args below meth c 2 w k n (vx_MQ below Qc (XCs w px') args s rX11_needSpace.cells rX11_needSpace.slots (wA w)) S 0 [(0, .int v0), (1, .int v1)] [] := by
  refine k_iload_n B 0 rfl rfl dX11_needSpace_0 ?_
  refine k_iload_n B 1 rfl rfl dX11_needSpace_1 ?_
  refine k_icmp_lt (tgt := 16) B dX11_needSpace_2 (by decide) (fun c => ?_) (fun c => ?_)
  · refine k_sub [] rfl ?_
    exact kt c
  · refine k_sub [] rfl ?_
    exact kf c
theorem bX11_needSpace_5 (B : Bd p s m args meth c cX11_needSpace 2 (wsOf yX11_needSpace cX11_needSpace 2 none) RX11 w none "needSpace") (hl : l.stackTraces = false) (ht : ∀ x ∈ c.exceptionTable.toList, False) {k n : Nat} {px' : String → St → Prop} {Qc : Array Value → State → Outcome → State → Prop} (h1 : k + 1 ≤ rX11_needSpace.cells) (h2 : n + 6 ≤ rX11_needSpace.slots) (hx : px' nIS S) : K p l e rX11_needSpace s m args below meth c 2 w k n (vx_MQ below Qc (XCs w px') args s rX11_needSpace.cells rX11_needSpace.slots (wA w)) S 5 [] [] := by
  exact k_throwSW B hl ht (cls := nIS) (in_of qkRX11_172) (in_of qz_nIS) (List.mem_of_getElem? (i := 5) rfl) (hat_of B (fun w h => in_of h) at1_nIS at2_nIS (List.mem_of_getElem? (i := 2) rfl)) at3_nIS at4_nIS dX11_needSpace_5 dX11_needSpace_8 dX11_needSpace_9 dX11_needSpace_12 dX11_needSpace_15 (Nat.le_of_ble_eq_true rfl) (Nat.le_of_ble_eq_true rfl) h1 h2 h1 h2 (hx)
theorem bX11_needSpace_16 (B : Bd p s m args meth c cX11_needSpace 2 (wsOf yX11_needSpace cX11_needSpace 2 none) RX11 w none "needSpace") (hl : l.stackTraces = false) (ht : ∀ x ∈ c.exceptionTable.toList, False) {post : St → Prop} {k n : Nat} {px' : String → St → Prop} (h1 : k ≤ rX11_needSpace.cells) (h2 : n ≤ rX11_needSpace.slots) (hq : post S) : K p l e rX11_needSpace s m args below meth c 2 w k n (vx_MQ below (va_Qv post (fun S' t => Hd w S' t.heap) (wA w)) (XCs w px') args s rX11_needSpace.cells rX11_needSpace.slots (wA w)) S 16 [] [] := by
  exact k_xret_V h1 h2 (ret_V B rfl dX11_needSpace_16 (hq))
theorem bX11_needStop_0 (B : Bd p s m args meth c cX11_needStop 3 (wsOf yX11_needStop cX11_needStop 3 none) RX11 w none "needStop") (hl : l.stackTraces = false) (ht : ∀ x ∈ c.exceptionTable.toList, False) {v0 : Nat} {v1 : Int32} {v2 : Int32} {x1 : Nat} {post : Int32 → St → Prop} {k n : Nat} {px' : String → St → Prop} {Qc : Array Value → State → Outcome → State → Prop} (h1 : kd S v0 = 13) (h2 : gP S 771 v0 = some x1) (hc : ConI l yJx4a65c_size_8abf5 (wsOf yJx4a65c_size_8abf5 cJx4a65c_size_8abf5 1 (some .int)) rJx4a65c_size_8abf5 w S [.ref x1] post) (h3 : k + 0 ≤ rX11_needStop.cells) (h4 : n + 0 ≤ rX11_needStop.slots) (h5 : kd S x1 = 1) (kk : ∀ (r : Int32) (S' : St), post r S' → K p l e rX11_needStop s m args below meth c 3 w k n (vx_MQ below Qc (XCs w px') args s rX11_needStop.cells rX11_needStop.slots (wA w)) S' 8 [(0, .ref v0), (1, .int v1), (2, .int v2)] [.int r, .int v1]) : K p l e rX11_needStop s m args below meth c 3 w k n (vx_MQ below Qc (XCs w px') args s rX11_needStop.cells rX11_needStop.slots (wA w)) S 0 [(0, .ref v0), (1, .int v1), (2, .int v2)] [] := by
  refine k_iload_n B 1 rfl rfl dX11_needStop_0 ?_
  refine k_aload_n B 0 rfl rfl dX11_needStop_1 ?_
  refine k_getP (f := 771) (r := gP S 771 v0) B 12 3 rfl (by decide) rfl (by decide) rfl rfl (fun w h => in_of (uw_12 w h)) (in_of qfRX11_26) dX11_needStop_2 h1 rfl ?_
  rw [h2]; change K _ _ _ _ _ _ _ _ _ _ _ _ _ _ _ _ _ _ (.ref x1 :: _)
  refine callV_I (st := [.int v1]) B [] (hc) (cwV 0 B.1.2.2.2.2 (gV qlRX11_101 qiJx4a65c_size_8abf5 qeJx4a65c_size_8abf5 qzRJx4a65c qcJx4a65c_size_8abf5) rfl rfl rfl (by decide +kernel) ⟨Nat.le_of_ble_eq_true rfl, Nat.le_of_ble_eq_true rfl⟩) rfl rfl (by decide) h5 (Nat.le_of_ble_eq_true rfl) rfl dX11_needStop_5 ⟨h3, h4⟩ (fun r S' hp => ?_)
  exact kk r S' hp
theorem bX11_needStop_8 (B : Bd p s m args meth c cX11_needStop 3 (wsOf yX11_needStop cX11_needStop 3 none) RX11 w none "needStop") (hl : l.stackTraces = false) (ht : ∀ x ∈ c.exceptionTable.toList, False) {v0 : Nat} {v1 : Int32} {v2 : Int32} {t0 : Int32} {t1 : Int32} {px : String → St → Prop} {post : St → Prop} {k n : Nat} {px' : String → St → Prop} {Qc : Array Value → State → Outcome → State → Prop} (hc : ConXV l yX11_needIndex (wsOf yX11_needIndex cX11_needIndex 2 none) rX11_needIndex w S [.int t0, .int t1] post px) (h1 : k + 1 ≤ rX11_needStop.cells) (h2 : n + 6 ≤ rX11_needStop.slots) (kx : ∀ (E : String) (S' : St), px E S' → px' E S') (kk : ∀ (S' : St), post S' → K p l e rX11_needStop s m args below meth c 3 w (k + 1) (n + 6) (vx_MQ below Qc (XCs w px') args s rX11_needStop.cells rX11_needStop.slots (wA w)) S' 11 [(0, .ref v0), (1, .int v1), (2, .int v2)] []) : K p l e rX11_needStop s m args below meth c 3 w k n (vx_MQ below Qc (XCs w px') args s rX11_needStop.cells rX11_needStop.slots (wA w)) S 8 [(0, .ref v0), (1, .int v1), (2, .int v2)] [.int t1, .int t0] := by
  refine tcallS_V (st := []) B ht [.int t0, .int t1] (hc) (va_cwS 2 B.1.2.2.2.2 (gS qlRX11_71 qsX11_needIndex qzRX11 qcX11_needIndex) rfl rfl rfl (by decide +kernel) ⟨Nat.le_of_ble_eq_true rfl, Nat.le_of_ble_eq_true rfl⟩) rfl (Nat.le_of_ble_eq_true rfl) rfl dX11_needStop_8 ⟨h1, h2⟩ ⟨h1, h2⟩ (kx) (fun S' hp => ?_)
  exact kk S' hp
theorem bX11_needStop_11 (B : Bd p s m args meth c cX11_needStop 3 (wsOf yX11_needStop cX11_needStop 3 none) RX11 w none "needStop") (hl : l.stackTraces = false) (ht : ∀ x ∈ c.exceptionTable.toList, False) {v0 : Nat} {v1 : Int32} {v2 : Int32} {x1 : Nat} {post : Nat → St → Prop} {k n : Nat} {px' : String → St → Prop} {Qc : Array Value → State → Outcome → State → Prop} (h1 : kd S v0 = 13) (h2 : gP S 771 v0 = some x1) (hc : ConR l yJx4a65c_get_915e3 (wsOf yJx4a65c_get_915e3 cJx4a65c_get_915e3 2 (some (.object "java/lang/Object"))) rJx4a65c_get_915e3 w S [.ref x1, .int v1] post) (h3 : k + 0 ≤ rX11_needStop.cells) (h4 : n + 0 ≤ rX11_needStop.slots) (h5 : kd S x1 = 1) (kk : ∀ (r : Nat) (S' : St), post r S' → K p l e rX11_needStop s m args below meth c 3 w k n (vx_MQ below Qc (XCs w px') args s rX11_needStop.cells rX11_needStop.slots (wA w)) S' 20 [] [.ref r, .int v2]) : K p l e rX11_needStop s m args below meth c 3 w k n (vx_MQ below Qc (XCs w px') args s rX11_needStop.cells rX11_needStop.slots (wA w)) S 11 [(0, .ref v0), (1, .int v1), (2, .int v2)] [] := by
  refine k_iload_n B 2 rfl rfl dX11_needStop_11 ?_
  refine k_aload_n B 0 rfl rfl dX11_needStop_12 ?_
  refine k_getP (f := 771) (r := gP S 771 v0) B 12 3 rfl (by decide) rfl (by decide) rfl rfl (fun w h => in_of (uw_12 w h)) (in_of qfRX11_26) dX11_needStop_13 h1 rfl ?_
  rw [h2]; change K _ _ _ _ _ _ _ _ _ _ _ _ _ _ _ _ _ _ (.ref x1 :: _)
  refine k_iload_n B 1 rfl rfl dX11_needStop_16 ?_
  refine callV_R (st := [.int v2]) B [.int v1] (hc) (cwV 1 B.1.2.2.2.2 (gV qlRX11_124 qiJx4a65c_get_915e3 qeJx4a65c_get_915e3 qzRJx4a65c qcJx4a65c_get_915e3) rfl rfl rfl (by decide +kernel) ⟨Nat.le_of_ble_eq_true rfl, Nat.le_of_ble_eq_true rfl⟩) rfl rfl (by decide) h5 (Nat.le_of_ble_eq_true rfl) rfl dX11_needStop_17 ⟨h3, h4⟩ (fun r S' hp => ?_)
  refine k_sub [] rfl ?_
  exact kk r S' hp
theorem bX11_needStop_20 (B : Bd p s m args meth c cX11_needStop 3 (wsOf yX11_needStop cX11_needStop 3 none) RX11 w none "needStop") (hl : l.stackTraces = false) (ht : ∀ x ∈ c.exceptionTable.toList, False) {t0 : Int32} {t1 : Nat} {x1 : Nat} {px : String → St → Prop} {post : St → Prop} {k n : Nat} {px' : String → St → Prop} {Qc : Array Value → State → Outcome → State → Prop} (h1 : kd S t1 = 12) (h2 : gP S 708 t1 = some x1) (h3 : kd S x1 = 8) (hc : ConXV l yX11_needIndex (wsOf yX11_needIndex cX11_needIndex 2 none) rX11_needIndex w S [.int t0, .int (gI S 449 x1)] post px) (h4 : k + 1 ≤ rX11_needStop.cells) (h5 : n + 6 ≤ rX11_needStop.slots) (kx : ∀ (E : String) (S' : St), px E S' → px' E S') (kk : ∀ (S' : St), post S' → K p l e rX11_needStop s m args below meth c 3 w (k + 1) (n + 6) (vx_MQ below Qc (XCs w px') args s rX11_needStop.cells rX11_needStop.slots (wA w)) S' 32 [] []) : K p l e rX11_needStop s m args below meth c 3 w k n (vx_MQ below Qc (XCs w px') args s rX11_needStop.cells rX11_needStop.slots (wA w)) S 20 [] [.ref t1, .int t0] := by
  refine k_cast B 11 rfl (by decide) (in_of qkRX11_139) dX11_needStop_20 h1 ?_
  refine k_getP (f := 708) (r := gP S 708 t1) B 11 4 rfl (by decide) rfl (by decide) rfl rfl (fun w h => in_of (uw_11 w h)) (in_of qfRX11_187) dX11_needStop_23 h1 rfl ?_
  rw [h2]; change K _ _ _ _ _ _ _ _ _ _ _ _ _ _ _ _ _ _ (.ref x1 :: _)
  refine k_getI (f := 449) (v := gI S 449 x1) B 7 1 rfl (by decide) rfl (by decide) rfl rfl (fun w h => in_of (uw_7 w h)) (in_of qfRX11_246) dX11_needStop_26 h3 rfl ?_
  refine tcallS_V (st := []) B ht [.int t0, .int (gI S 449 x1)] (hc) (va_cwS 2 B.1.2.2.2.2 (gS qlRX11_71 qsX11_needIndex qzRX11 qcX11_needIndex) rfl rfl rfl (by decide +kernel) ⟨Nat.le_of_ble_eq_true rfl, Nat.le_of_ble_eq_true rfl⟩) rfl (Nat.le_of_ble_eq_true rfl) rfl dX11_needStop_29 ⟨h4, h5⟩ ⟨h4, h5⟩ (kx) (fun S' hp => ?_)
  exact kk S' hp
theorem bX11_needStop_32 (B : Bd p s m args meth c cX11_needStop 3 (wsOf yX11_needStop cX11_needStop 3 none) RX11 w none "needStop") (hl : l.stackTraces = false) (ht : ∀ x ∈ c.exceptionTable.toList, False) {post : St → Prop} {k n : Nat} {px' : String → St → Prop} (h1 : k ≤ rX11_needStop.cells) (h2 : n ≤ rX11_needStop.slots) (hq : post S) : K p l e rX11_needStop s m args below meth c 3 w k n (vx_MQ below (va_Qv post (fun S' t => Hd w S' t.heap) (wA w)) (XCs w px') args s rX11_needStop.cells rX11_needStop.slots (wA w)) S 32 [] [] := by
  exact k_xret_V h1 h2 (ret_V B rfl dX11_needStop_32 (hq))
theorem bX11_needSpot_0 (B : Bd p s m args meth c cX11_needSpot 4 (wsOf yX11_needSpot cX11_needSpot 4 none) RX11 w none "needSpot") (hl : l.stackTraces = false) (ht : ∀ x ∈ c.exceptionTable.toList, False) {v0 : Nat} {v1 : Int32} {v2 : Int32} {v3 : Int32} {x1 : Nat} {post : Int32 → St → Prop} {k n : Nat} {px' : String → St → Prop} {Qc : Array Value → State → Outcome → State → Prop} (h1 : kd S v0 = 13) (h2 : gP S 772 v0 = some x1) (hc : ConI l yJx4a65c_size_8abf5 (wsOf yJx4a65c_size_8abf5 cJx4a65c_size_8abf5 1 (some .int)) rJx4a65c_size_8abf5 w S [.ref x1] post) (h3 : k + 0 ≤ rX11_needSpot.cells) (h4 : n + 0 ≤ rX11_needSpot.slots) (h5 : kd S x1 = 1) (kk : ∀ (r : Int32) (S' : St), post r S' → K p l e rX11_needSpot s m args below meth c 4 w k n (vx_MQ below Qc (XCs w px') args s rX11_needSpot.cells rX11_needSpot.slots (wA w)) S' 8 [(0, .ref v0), (2, .int v2), (3, .int v3)] [.int r, .int v1]) : K p l e rX11_needSpot s m args below meth c 4 w k n (vx_MQ below Qc (XCs w px') args s rX11_needSpot.cells rX11_needSpot.slots (wA w)) S 0 [(0, .ref v0), (1, .int v1), (2, .int v2), (3, .int v3)] [] := by
  refine k_iload_n B 1 rfl rfl dX11_needSpot_0 ?_
  refine k_aload_n B 0 rfl rfl dX11_needSpot_1 ?_
  refine k_getP (f := 772) (r := gP S 772 v0) B 12 4 rfl (by decide) rfl (by decide) rfl rfl (fun w h => in_of (uw_12 w h)) (in_of qfRX11_29) dX11_needSpot_2 h1 rfl ?_
  rw [h2]; change K _ _ _ _ _ _ _ _ _ _ _ _ _ _ _ _ _ _ (.ref x1 :: _)
  refine callV_I (st := [.int v1]) B [] (hc) (cwV 0 B.1.2.2.2.2 (gV qlRX11_101 qiJx4a65c_size_8abf5 qeJx4a65c_size_8abf5 qzRJx4a65c qcJx4a65c_size_8abf5) rfl rfl rfl (by decide +kernel) ⟨Nat.le_of_ble_eq_true rfl, Nat.le_of_ble_eq_true rfl⟩) rfl rfl (by decide) h5 (Nat.le_of_ble_eq_true rfl) rfl dX11_needSpot_5 ⟨h3, h4⟩ (fun r S' hp => ?_)
  refine k_sub [0, 2, 3] rfl ?_
  exact kk r S' hp
theorem bX11_needSpot_8 (B : Bd p s m args meth c cX11_needSpot 4 (wsOf yX11_needSpot cX11_needSpot 4 none) RX11 w none "needSpot") (hl : l.stackTraces = false) (ht : ∀ x ∈ c.exceptionTable.toList, False) {v0 : Nat} {v2 : Int32} {v3 : Int32} {t0 : Int32} {t1 : Int32} {px : String → St → Prop} {post : St → Prop} {k n : Nat} {px' : String → St → Prop} {Qc : Array Value → State → Outcome → State → Prop} (hc : ConXV l yX11_needIndex (wsOf yX11_needIndex cX11_needIndex 2 none) rX11_needIndex w S [.int t0, .int t1] post px) (h1 : k + 1 ≤ rX11_needSpot.cells) (h2 : n + 6 ≤ rX11_needSpot.slots) (kx : ∀ (E : String) (S' : St), px E S' → px' E S') (kk : ∀ (S' : St), post S' → K p l e rX11_needSpot s m args below meth c 4 w (k + 1) (n + 6) (vx_MQ below Qc (XCs w px') args s rX11_needSpot.cells rX11_needSpot.slots (wA w)) S' 11 [(0, .ref v0), (2, .int v2), (3, .int v3)] []) : K p l e rX11_needSpot s m args below meth c 4 w k n (vx_MQ below Qc (XCs w px') args s rX11_needSpot.cells rX11_needSpot.slots (wA w)) S 8 [(0, .ref v0), (2, .int v2), (3, .int v3)] [.int t1, .int t0] := by
  refine tcallS_V (st := []) B ht [.int t0, .int t1] (hc) (va_cwS 2 B.1.2.2.2.2 (gS qlRX11_71 qsX11_needIndex qzRX11 qcX11_needIndex) rfl rfl rfl (by decide +kernel) ⟨Nat.le_of_ble_eq_true rfl, Nat.le_of_ble_eq_true rfl⟩) rfl (Nat.le_of_ble_eq_true rfl) rfl dX11_needSpot_8 ⟨h1, h2⟩ ⟨h1, h2⟩ (kx) (fun S' hp => ?_)
  exact kk S' hp
theorem bX11_needSpot_11 (B : Bd p s m args meth c cX11_needSpot 4 (wsOf yX11_needSpot cX11_needSpot 4 none) RX11 w none "needSpot") (hl : l.stackTraces = false) (ht : ∀ x ∈ c.exceptionTable.toList, False) {v0 : Nat} {v2 : Int32} {v3 : Int32} {x1 : Nat} {post : Int32 → St → Prop} {k n : Nat} {px' : String → St → Prop} {Qc : Array Value → State → Outcome → State → Prop} (h1 : kd S v0 = 13) (h2 : gP S 771 v0 = some x1) (hc : ConI l yJx4a65c_size_8abf5 (wsOf yJx4a65c_size_8abf5 cJx4a65c_size_8abf5 1 (some .int)) rJx4a65c_size_8abf5 w S [.ref x1] post) (h3 : k + 0 ≤ rX11_needSpot.cells) (h4 : n + 0 ≤ rX11_needSpot.slots) (h5 : kd S x1 = 1) (kk : ∀ (r : Int32) (S' : St), post r S' → K p l e rX11_needSpot s m args below meth c 4 w k n (vx_MQ below Qc (XCs w px') args s rX11_needSpot.cells rX11_needSpot.slots (wA w)) S' 19 [(0, .ref v0), (2, .int v2), (3, .int v3)] [.int r, .int v2]) : K p l e rX11_needSpot s m args below meth c 4 w k n (vx_MQ below Qc (XCs w px') args s rX11_needSpot.cells rX11_needSpot.slots (wA w)) S 11 [(0, .ref v0), (2, .int v2), (3, .int v3)] [] := by
  refine k_iload_n B 1 rfl rfl dX11_needSpot_11 ?_
  refine k_aload_n B 0 rfl rfl dX11_needSpot_12 ?_
  refine k_getP (f := 771) (r := gP S 771 v0) B 12 3 rfl (by decide) rfl (by decide) rfl rfl (fun w h => in_of (uw_12 w h)) (in_of qfRX11_26) dX11_needSpot_13 h1 rfl ?_
  rw [h2]; change K _ _ _ _ _ _ _ _ _ _ _ _ _ _ _ _ _ _ (.ref x1 :: _)
  refine callV_I (st := [.int v2]) B [] (hc) (cwV 0 B.1.2.2.2.2 (gV qlRX11_101 qiJx4a65c_size_8abf5 qeJx4a65c_size_8abf5 qzRJx4a65c qcJx4a65c_size_8abf5) rfl rfl rfl (by decide +kernel) ⟨Nat.le_of_ble_eq_true rfl, Nat.le_of_ble_eq_true rfl⟩) rfl rfl (by decide) h5 (Nat.le_of_ble_eq_true rfl) rfl dX11_needSpot_16 ⟨h3, h4⟩ (fun r S' hp => ?_)
  exact kk r S' hp
theorem bX11_needSpot_19 (B : Bd p s m args meth c cX11_needSpot 4 (wsOf yX11_needSpot cX11_needSpot 4 none) RX11 w none "needSpot") (hl : l.stackTraces = false) (ht : ∀ x ∈ c.exceptionTable.toList, False) {v0 : Nat} {v2 : Int32} {v3 : Int32} {t0 : Int32} {t1 : Int32} {px : String → St → Prop} {post : St → Prop} {k n : Nat} {px' : String → St → Prop} {Qc : Array Value → State → Outcome → State → Prop} (hc : ConXV l yX11_needIndex (wsOf yX11_needIndex cX11_needIndex 2 none) rX11_needIndex w S [.int t0, .int t1] post px) (h1 : k + 1 ≤ rX11_needSpot.cells) (h2 : n + 6 ≤ rX11_needSpot.slots) (kx : ∀ (E : String) (S' : St), px E S' → px' E S') (kk : ∀ (S' : St), post S' → K p l e rX11_needSpot s m args below meth c 4 w (k + 1) (n + 6) (vx_MQ below Qc (XCs w px') args s rX11_needSpot.cells rX11_needSpot.slots (wA w)) S' 22 [(0, .ref v0), (2, .int v2), (3, .int v3)] []) : K p l e rX11_needSpot s m args below meth c 4 w k n (vx_MQ below Qc (XCs w px') args s rX11_needSpot.cells rX11_needSpot.slots (wA w)) S 19 [(0, .ref v0), (2, .int v2), (3, .int v3)] [.int t1, .int t0] := by
  refine tcallS_V (st := []) B ht [.int t0, .int t1] (hc) (va_cwS 2 B.1.2.2.2.2 (gS qlRX11_71 qsX11_needIndex qzRX11 qcX11_needIndex) rfl rfl rfl (by decide +kernel) ⟨Nat.le_of_ble_eq_true rfl, Nat.le_of_ble_eq_true rfl⟩) rfl (Nat.le_of_ble_eq_true rfl) rfl dX11_needSpot_19 ⟨h1, h2⟩ ⟨h1, h2⟩ (kx) (fun S' hp => ?_)
  exact kk S' hp
theorem bX11_needSpot_22 (B : Bd p s m args meth c cX11_needSpot 4 (wsOf yX11_needSpot cX11_needSpot 4 none) RX11 w none "needSpot") (hl : l.stackTraces = false) (ht : ∀ x ∈ c.exceptionTable.toList, False) {v0 : Nat} {v2 : Int32} {v3 : Int32} {x1 : Nat} {post : Nat → St → Prop} {k n : Nat} {px' : String → St → Prop} {Qc : Array Value → State → Outcome → State → Prop} (h1 : kd S v0 = 13) (h2 : gP S 771 v0 = some x1) (hc : ConR l yJx4a65c_get_915e3 (wsOf yJx4a65c_get_915e3 cJx4a65c_get_915e3 2 (some (.object "java/lang/Object"))) rJx4a65c_get_915e3 w S [.ref x1, .int v2] post) (h3 : k + 0 ≤ rX11_needSpot.cells) (h4 : n + 0 ≤ rX11_needSpot.slots) (h5 : kd S x1 = 1) (kk : ∀ (r : Nat) (S' : St), post r S' → K p l e rX11_needSpot s m args below meth c 4 w k n (vx_MQ below Qc (XCs w px') args s rX11_needSpot.cells rX11_needSpot.slots (wA w)) S' 31 [] [.ref r, .int v3]) : K p l e rX11_needSpot s m args below meth c 4 w k n (vx_MQ below Qc (XCs w px') args s rX11_needSpot.cells rX11_needSpot.slots (wA w)) S 22 [(0, .ref v0), (2, .int v2), (3, .int v3)] [] := by
  refine k_iload_n B 2 rfl rfl dX11_needSpot_22 ?_
  refine k_aload_n B 0 rfl rfl dX11_needSpot_23 ?_
  refine k_getP (f := 771) (r := gP S 771 v0) B 12 3 rfl (by decide) rfl (by decide) rfl rfl (fun w h => in_of (uw_12 w h)) (in_of qfRX11_26) dX11_needSpot_24 h1 rfl ?_
  rw [h2]; change K _ _ _ _ _ _ _ _ _ _ _ _ _ _ _ _ _ _ (.ref x1 :: _)
  refine k_iload_n B 1 rfl rfl dX11_needSpot_27 ?_
  refine callV_R (st := [.int v3]) B [.int v2] (hc) (cwV 1 B.1.2.2.2.2 (gV qlRX11_124 qiJx4a65c_get_915e3 qeJx4a65c_get_915e3 qzRJx4a65c qcJx4a65c_get_915e3) rfl rfl rfl (by decide +kernel) ⟨Nat.le_of_ble_eq_true rfl, Nat.le_of_ble_eq_true rfl⟩) rfl rfl (by decide) h5 (Nat.le_of_ble_eq_true rfl) rfl dX11_needSpot_28 ⟨h3, h4⟩ (fun r S' hp => ?_)
  refine k_sub [] rfl ?_
  exact kk r S' hp
theorem bX11_needSpot_31 (B : Bd p s m args meth c cX11_needSpot 4 (wsOf yX11_needSpot cX11_needSpot 4 none) RX11 w none "needSpot") (hl : l.stackTraces = false) (ht : ∀ x ∈ c.exceptionTable.toList, False) {t0 : Int32} {t1 : Nat} {x1 : Nat} {px : String → St → Prop} {post : St → Prop} {k n : Nat} {px' : String → St → Prop} {Qc : Array Value → State → Outcome → State → Prop} (h1 : kd S t1 = 12) (h2 : gP S 708 t1 = some x1) (h3 : kd S x1 = 8) (hc : ConXV l yX11_needIndex (wsOf yX11_needIndex cX11_needIndex 2 none) rX11_needIndex w S [.int t0, .int ((gI S 449 x1) + 1)] post px) (h4 : k + 1 ≤ rX11_needSpot.cells) (h5 : n + 6 ≤ rX11_needSpot.slots) (kx : ∀ (E : String) (S' : St), px E S' → px' E S') (kk : ∀ (S' : St), post S' → K p l e rX11_needSpot s m args below meth c 4 w (k + 1) (n + 6) (vx_MQ below Qc (XCs w px') args s rX11_needSpot.cells rX11_needSpot.slots (wA w)) S' 45 [] []) : K p l e rX11_needSpot s m args below meth c 4 w k n (vx_MQ below Qc (XCs w px') args s rX11_needSpot.cells rX11_needSpot.slots (wA w)) S 31 [] [.ref t1, .int t0] := by
  refine k_cast B 11 rfl (by decide) (in_of qkRX11_139) dX11_needSpot_31 h1 ?_
  refine k_getP (f := 708) (r := gP S 708 t1) B 11 4 rfl (by decide) rfl (by decide) rfl rfl (fun w h => in_of (uw_11 w h)) (in_of qfRX11_187) dX11_needSpot_34 h1 rfl ?_
  rw [h2]; change K _ _ _ _ _ _ _ _ _ _ _ _ _ _ _ _ _ _ (.ref x1 :: _)
  refine k_getI (f := 449) (v := gI S 449 x1) B 7 1 rfl (by decide) rfl (by decide) rfl rfl (fun w h => in_of (uw_7 w h)) (in_of qfRX11_246) dX11_needSpot_37 h3 rfl ?_
  refine k_iconst (v := 1) B (by decide) dX11_needSpot_40 ?_
  refine k_iadd B dX11_needSpot_41 ?_
  refine tcallS_V (st := []) B ht [.int t0, .int ((gI S 449 x1) + 1)] (hc) (va_cwS 2 B.1.2.2.2.2 (gS qlRX11_71 qsX11_needIndex qzRX11 qcX11_needIndex) rfl rfl rfl (by decide +kernel) ⟨Nat.le_of_ble_eq_true rfl, Nat.le_of_ble_eq_true rfl⟩) rfl (Nat.le_of_ble_eq_true rfl) rfl dX11_needSpot_42 ⟨h4, h5⟩ ⟨h4, h5⟩ (kx) (fun S' hp => ?_)
  exact kk S' hp
theorem bX11_needSpot_45 (B : Bd p s m args meth c cX11_needSpot 4 (wsOf yX11_needSpot cX11_needSpot 4 none) RX11 w none "needSpot") (hl : l.stackTraces = false) (ht : ∀ x ∈ c.exceptionTable.toList, False) {post : St → Prop} {k n : Nat} {px' : String → St → Prop} (h1 : k ≤ rX11_needSpot.cells) (h2 : n ≤ rX11_needSpot.slots) (hq : post S) : K p l e rX11_needSpot s m args below meth c 4 w k n (vx_MQ below (va_Qv post (fun S' t => Hd w S' t.heap) (wA w)) (XCs w px') args s rX11_needSpot.cells rX11_needSpot.slots (wA w)) S 45 [] [] := by
  exact k_xret_V h1 h2 (ret_V B rfl dX11_needSpot_45 (hq))
theorem bX11_factOfHome_0 (B : Bd p s m args meth c cX11_factOfHome 4 (wsOf yX11_factOfHome cX11_factOfHome 4 (some .int)) RX11 w (some .int) "factOfHome") {v0 : Nat} {v1 : Int32} {v2 : Int32} {x1 : Nat} {post : Nat → St → Prop} {Q : State → Prop} (h1 : kd S v0 = 13) (h2 : gP S 769 v0 = some x1) (hc : ConR l yJx4a65c_get_915e3 (wsOf yJx4a65c_get_915e3 cJx4a65c_get_915e3 2 (some (.object "java/lang/Object"))) rJx4a65c_get_915e3 w S [.ref x1, .int v1] post) (h3 : kd S x1 = 1) (kk : ∀ (r : Nat) (S' : St), post r S' → K p l e rX11_factOfHome s m args below meth c 4 w 0 0 Q S' 8 [(0, .ref v0), (1, .int v1), (2, .int v2)] [.ref r]) : K p l e rX11_factOfHome s m args below meth c 4 w 0 0 Q S 0 [(0, .ref v0), (1, .int v1), (2, .int v2)] [] := by
  refine k_aload_n B 0 rfl rfl dX11_factOfHome_0 ?_
  refine k_getP (f := 769) (r := gP S 769 v0) B 12 1 rfl (by decide) rfl (by decide) rfl rfl (fun w h => in_of (uw_12 w h)) (in_of qfRX11_19) dX11_factOfHome_1 h1 rfl ?_
  rw [h2]; change K _ _ _ _ _ _ _ _ _ _ _ _ _ _ _ _ _ _ (.ref x1 :: _)
  refine k_iload_n B 1 rfl rfl dX11_factOfHome_4 ?_
  refine callV_R (st := []) B [.int v1] (hc) (cwV 1 B.1.2.2.2.2 (gV qlRX11_124 qiJx4a65c_get_915e3 qeJx4a65c_get_915e3 qzRJx4a65c qcJx4a65c_get_915e3) rfl rfl rfl (by decide +kernel) ⟨Nat.le_of_ble_eq_true rfl, Nat.le_of_ble_eq_true rfl⟩) rfl rfl (by decide) h3 (Nat.le_of_ble_eq_true rfl) rfl dX11_factOfHome_5 ⟨Nat.le_of_ble_eq_true rfl, Nat.le_of_ble_eq_true rfl⟩ (fun r S' hp => ?_)
  exact kk r S' hp
theorem bX11_factOfHome_8 (B : Bd p s m args meth c cX11_factOfHome 4 (wsOf yX11_factOfHome cX11_factOfHome 4 (some .int)) RX11 w (some .int) "factOfHome") {v0 : Nat} {v1 : Int32} {v2 : Int32} {t0 : Nat} {Q : State → Prop} (h1 : kd S t0 = 3) (kd : v2.toInt < 0 ∨ 4 < v2.toInt → K p l e rX11_factOfHome s m args below meth c 4 w 0 0 Q S 80 [(0, .ref v0), (1, .int v1)] []) (k0 : v2 = 0 → K p l e rX11_factOfHome s m args below meth c 4 w 0 0 Q S 48 [(3, .ref t0)] []) (k1 : v2 = 1 → K p l e rX11_factOfHome s m args below meth c 4 w 0 0 Q S 56 [(3, .ref t0)] []) (k2 : v2 = 2 → K p l e rX11_factOfHome s m args below meth c 4 w 0 0 Q S 64 [(3, .ref t0)] []) (k3 : v2 = 3 → K p l e rX11_factOfHome s m args below meth c 4 w 0 0 Q S 69 [(3, .ref t0)] []) (k4 : v2 = 4 → K p l e rX11_factOfHome s m args below meth c 4 w 0 0 Q S 74 [(0, .ref v0), (1, .int v1)] []) : K p l e rX11_factOfHome s m args below meth c 4 w 0 0 Q S 8 [(0, .ref v0), (1, .int v1), (2, .int v2)] [.ref t0] := by
  refine k_cast B 2 rfl (by decide) (in_of qkRX11_108) dX11_factOfHome_8 h1 ?_
  refine k_astore_n (lst' := [(3, .ref t0), (0, .ref v0), (1, .int v1), (2, .int v2)]) B rfl (by decide) rfl dX11_factOfHome_11 ?_
  refine k_iload_n B 3 rfl rfl dX11_factOfHome_12 ?_
  rcases (show v2.toInt < 0 ∨ 4 < v2.toInt ∨ v2.toInt = 0 ∨ v2.toInt = 1 ∨ v2.toInt = 2 ∨ v2.toInt = 3 ∨ v2.toInt = 4 by omega) with c | c | c | c | c | c | c
  · refine k_tabOut (tgt := 80) B dX11_factOfHome_13 (Or.inl c) (by decide) ?_
    refine k_sub [1, 2] rfl ?_
    exact kd (Or.inl c)
  · refine k_tabOut (tgt := 80) B dX11_factOfHome_13 (Or.inr c) (by decide) ?_
    refine k_sub [1, 2] rfl ?_
    exact kd (Or.inr c)
  · refine k_tabIn (off := 35) (tgt := 48) B dX11_factOfHome_13 (by omega) (by omega) (by rw [c]; rfl) (by decide) ?_
    refine k_sub [0] rfl ?_
    exact k0 (Int32.toInt_inj.mp (c.trans (by decide)))
  · refine k_tabIn (off := 43) (tgt := 56) B dX11_factOfHome_13 (by omega) (by omega) (by rw [c]; rfl) (by decide) ?_
    refine k_sub [0] rfl ?_
    exact k1 (Int32.toInt_inj.mp (c.trans (by decide)))
  · refine k_tabIn (off := 51) (tgt := 64) B dX11_factOfHome_13 (by omega) (by omega) (by rw [c]; rfl) (by decide) ?_
    refine k_sub [0] rfl ?_
    exact k2 (Int32.toInt_inj.mp (c.trans (by decide)))
  · refine k_tabIn (off := 56) (tgt := 69) B dX11_factOfHome_13 (by omega) (by omega) (by rw [c]; rfl) (by decide) ?_
    refine k_sub [0] rfl ?_
    exact k3 (Int32.toInt_inj.mp (c.trans (by decide)))
  · refine k_tabIn (off := 61) (tgt := 74) B dX11_factOfHome_13 (by omega) (by omega) (by rw [c]; rfl) (by decide) ?_
    refine k_sub [1, 2] rfl ?_
    exact k4 (Int32.toInt_inj.mp (c.trans (by decide)))
theorem bX11_factOfHome_48 (B : Bd p s m args meth c cX11_factOfHome 4 (wsOf yX11_factOfHome cX11_factOfHome 4 (some .int)) RX11 w (some .int) "factOfHome") {v3 : Nat} {x1 : Nat} {post : Int32 → St → Prop} (h1 : kd S v3 = 3) (h2 : gP S 128 v3 = some x1) (h3 : kd S x1 = 6) (hq : post (gI S 320 x1) S) : K p l e rX11_factOfHome s m args below meth c 4 w 0 0 (MQ below (va_Qi post (fun S' t => Hd w S' t.heap) (wA w)) args s 0 0 (wA w)) S 48 [(3, .ref v3)] [] := by
  refine k_aload_n B 0 rfl rfl dX11_factOfHome_48 ?_
  refine k_getP (f := 128) (r := gP S 128 v3) B 2 0 rfl (by decide) rfl (by decide) rfl rfl (fun w h => in_of (uw_2 w h)) (in_of qfRX11_327) dX11_factOfHome_49 h1 rfl ?_
  rw [h2]; change K _ _ _ _ _ _ _ _ _ _ _ _ _ _ _ _ _ _ (.ref x1 :: _)
  refine k_getI (f := 320) (v := gI S 320 x1) B 5 0 rfl (by decide) rfl (by decide) rfl rfl (fun w h => in_of (uw_5 w h)) (in_of qfRX11_94) dX11_factOfHome_52 h3 rfl ?_
  exact ret_I B rfl dX11_factOfHome_55 (hq)
theorem bX11_factOfHome_56 (B : Bd p s m args meth c cX11_factOfHome 4 (wsOf yX11_factOfHome cX11_factOfHome 4 (some .int)) RX11 w (some .int) "factOfHome") {v3 : Nat} {x1 : Nat} {post : Int32 → St → Prop} (h1 : kd S v3 = 3) (h2 : gP S 128 v3 = some x1) (h3 : kd S x1 = 6) (hq : post (gI S 321 x1) S) : K p l e rX11_factOfHome s m args below meth c 4 w 0 0 (MQ below (va_Qi post (fun S' t => Hd w S' t.heap) (wA w)) args s 0 0 (wA w)) S 56 [(3, .ref v3)] [] := by
  refine k_aload_n B 0 rfl rfl dX11_factOfHome_56 ?_
  refine k_getP (f := 128) (r := gP S 128 v3) B 2 0 rfl (by decide) rfl (by decide) rfl rfl (fun w h => in_of (uw_2 w h)) (in_of qfRX11_327) dX11_factOfHome_57 h1 rfl ?_
  rw [h2]; change K _ _ _ _ _ _ _ _ _ _ _ _ _ _ _ _ _ _ (.ref x1 :: _)
  refine k_getI (f := 321) (v := gI S 321 x1) B 5 1 rfl (by decide) rfl (by decide) rfl rfl (fun w h => in_of (uw_5 w h)) (in_of qfRX11_97) dX11_factOfHome_60 h3 rfl ?_
  exact ret_I B rfl dX11_factOfHome_63 (hq)
theorem bX11_factOfHome_64 (B : Bd p s m args meth c cX11_factOfHome 4 (wsOf yX11_factOfHome cX11_factOfHome 4 (some .int)) RX11 w (some .int) "factOfHome") {v3 : Nat} {post : Int32 → St → Prop} (h1 : kd S v3 = 3) (hq : post (gI S 129 v3) S) : K p l e rX11_factOfHome s m args below meth c 4 w 0 0 (MQ below (va_Qi post (fun S' t => Hd w S' t.heap) (wA w)) args s 0 0 (wA w)) S 64 [(3, .ref v3)] [] := by
  refine k_aload_n B 0 rfl rfl dX11_factOfHome_64 ?_
  refine k_getI (f := 129) (v := gI S 129 v3) B 2 1 rfl (by decide) rfl (by decide) rfl rfl (fun w h => in_of (uw_2 w h)) (in_of qfRX11_330) dX11_factOfHome_65 h1 rfl ?_
  exact ret_I B rfl dX11_factOfHome_68 (hq)
theorem bX11_factOfHome_69 (B : Bd p s m args meth c cX11_factOfHome 4 (wsOf yX11_factOfHome cX11_factOfHome 4 (some .int)) RX11 w (some .int) "factOfHome") {v3 : Nat} {post : Int32 → St → Prop} (h1 : kd S v3 = 3) (hq : post (gI S 131 v3) S) : K p l e rX11_factOfHome s m args below meth c 4 w 0 0 (MQ below (va_Qi post (fun S' t => Hd w S' t.heap) (wA w)) args s 0 0 (wA w)) S 69 [(3, .ref v3)] [] := by
  refine k_aload_n B 0 rfl rfl dX11_factOfHome_69 ?_
  refine k_getI (f := 131) (v := gI S 131 v3) B 2 3 rfl (by decide) rfl (by decide) rfl rfl (fun w h => in_of (uw_2 w h)) (in_of qfRX11_128) dX11_factOfHome_70 h1 rfl ?_
  exact ret_I B rfl dX11_factOfHome_73 (hq)
theorem bX11_factOfHome_74 (B : Bd p s m args meth c cX11_factOfHome 4 (wsOf yX11_factOfHome cX11_factOfHome 4 (some .int)) RX11 w (some .int) "factOfHome") {v0 : Nat} {v1 : Int32} {post : Int32 → St → Prop} {Q : State → Prop} (hc : ConI l yX11_waitingFor (wsOf yX11_waitingFor cX11_waitingFor 5 (some .int)) rX11_waitingFor w S [.ref v0, .int v1] post) (h1 : kd S v0 = 13) (kk : ∀ (r : Int32) (S' : St), post r S' → K p l e rX11_factOfHome s m args below meth c 4 w 0 0 Q S' 79 [] [.int r]) : K p l e rX11_factOfHome s m args below meth c 4 w 0 0 Q S 74 [(0, .ref v0), (1, .int v1)] [] := by
  refine k_aload_n B 0 rfl rfl dX11_factOfHome_74 ?_
  refine k_iload_n B 1 rfl rfl dX11_factOfHome_75 ?_
  refine callV_I (st := []) B [.int v1] (hc) (cwV 1 B.1.2.2.2.2 (gV qlRX11_333 qiX11_waitingFor qeX11_waitingFor qzRX11 qcX11_waitingFor) rfl rfl rfl (by decide +kernel) ⟨Nat.le_of_ble_eq_true rfl, Nat.le_of_ble_eq_true rfl⟩) rfl rfl (by decide) h1 (Nat.le_of_ble_eq_true rfl) rfl dX11_factOfHome_76 ⟨Nat.le_of_ble_eq_true rfl, Nat.le_of_ble_eq_true rfl⟩ (fun r S' hp => ?_)
  refine k_sub [] rfl ?_
  exact kk r S' hp
theorem bX11_factOfHome_79 (B : Bd p s m args meth c cX11_factOfHome 4 (wsOf yX11_factOfHome cX11_factOfHome 4 (some .int)) RX11 w (some .int) "factOfHome") {t0 : Int32} {post : Int32 → St → Prop}  (hq : post t0 S) : K p l e rX11_factOfHome s m args below meth c 4 w 0 0 (MQ below (va_Qi post (fun S' t => Hd w S' t.heap) (wA w)) args s 0 0 (wA w)) S 79 [] [.int t0] := by
  exact ret_I B rfl dX11_factOfHome_79 (hq)
theorem bX11_factOfHome_80 (B : Bd p s m args meth c cX11_factOfHome 4 (wsOf yX11_factOfHome cX11_factOfHome 4 (some .int)) RX11 w (some .int) "factOfHome") {v0 : Nat} {v1 : Int32} {post : Int32 → St → Prop} {Q : State → Prop} (hc : ConI l yX11_lyingAt (wsOf yX11_lyingAt cX11_lyingAt 6 (some .int)) rX11_lyingAt w S [.ref v0, .int 3, .int v1] post) (h1 : kd S v0 = 13) (kk : ∀ (r : Int32) (S' : St), post r S' → K p l e rX11_factOfHome s m args below meth c 4 w 0 0 Q S' 86 [] [.int r]) : K p l e rX11_factOfHome s m args below meth c 4 w 0 0 Q S 80 [(0, .ref v0), (1, .int v1)] [] := by
  refine k_aload_n B 0 rfl rfl dX11_factOfHome_80 ?_
  refine k_iconst (v := 3) B (by decide) dX11_factOfHome_81 ?_
  refine k_iload_n B 1 rfl rfl dX11_factOfHome_82 ?_
  refine callV_I (st := []) B [.int 3, .int v1] (hc) (cwV 2 B.1.2.2.2.2 (gV qlRX11_336 qiX11_lyingAt qeX11_lyingAt qzRX11 qcX11_lyingAt) rfl rfl rfl (by decide +kernel) ⟨Nat.le_of_ble_eq_true rfl, Nat.le_of_ble_eq_true rfl⟩) rfl rfl (by decide) h1 (Nat.le_of_ble_eq_true rfl) rfl dX11_factOfHome_83 ⟨Nat.le_of_ble_eq_true rfl, Nat.le_of_ble_eq_true rfl⟩ (fun r S' hp => ?_)
  refine k_sub [] rfl ?_
  exact kk r S' hp
theorem bX11_factOfHome_86 (B : Bd p s m args meth c cX11_factOfHome 4 (wsOf yX11_factOfHome cX11_factOfHome 4 (some .int)) RX11 w (some .int) "factOfHome") {t0 : Int32} {post : Int32 → St → Prop}  (hq : post t0 S) : K p l e rX11_factOfHome s m args below meth c 4 w 0 0 (MQ below (va_Qi post (fun S' t => Hd w S' t.heap) (wA w)) args s 0 0 (wA w)) S 86 [] [.int t0] := by
  exact ret_I B rfl dX11_factOfHome_86 (hq)
theorem bX11_factOfLocker_0 (B : Bd p s m args meth c cX11_factOfLocker 4 (wsOf yX11_factOfLocker cX11_factOfLocker 4 (some .int)) RX11 w (some .int) "factOfLocker") {v0 : Nat} {v1 : Int32} {v2 : Int32} {x1 : Nat} {post : Nat → St → Prop} {Q : State → Prop} (h1 : kd S v0 = 13) (h2 : gP S 770 v0 = some x1) (hc : ConR l yJx4a65c_get_915e3 (wsOf yJx4a65c_get_915e3 cJx4a65c_get_915e3 2 (some (.object "java/lang/Object"))) rJx4a65c_get_915e3 w S [.ref x1, .int v1] post) (h3 : kd S x1 = 1) (kk : ∀ (r : Nat) (S' : St), post r S' → K p l e rX11_factOfLocker s m args below meth c 4 w 0 0 Q S' 8 [(0, .ref v0), (1, .int v1), (2, .int v2)] [.ref r]) : K p l e rX11_factOfLocker s m args below meth c 4 w 0 0 Q S 0 [(0, .ref v0), (1, .int v1), (2, .int v2)] [] := by
  refine k_aload_n B 0 rfl rfl dX11_factOfLocker_0 ?_
  refine k_getP (f := 770) (r := gP S 770 v0) B 12 2 rfl (by decide) rfl (by decide) rfl rfl (fun w h => in_of (uw_12 w h)) (in_of qfRX11_23) dX11_factOfLocker_1 h1 rfl ?_
  rw [h2]; change K _ _ _ _ _ _ _ _ _ _ _ _ _ _ _ _ _ _ (.ref x1 :: _)
  refine k_iload_n B 1 rfl rfl dX11_factOfLocker_4 ?_
  refine callV_R (st := []) B [.int v1] (hc) (cwV 1 B.1.2.2.2.2 (gV qlRX11_124 qiJx4a65c_get_915e3 qeJx4a65c_get_915e3 qzRJx4a65c qcJx4a65c_get_915e3) rfl rfl rfl (by decide +kernel) ⟨Nat.le_of_ble_eq_true rfl, Nat.le_of_ble_eq_true rfl⟩) rfl rfl (by decide) h3 (Nat.le_of_ble_eq_true rfl) rfl dX11_factOfLocker_5 ⟨Nat.le_of_ble_eq_true rfl, Nat.le_of_ble_eq_true rfl⟩ (fun r S' hp => ?_)
  exact kk r S' hp
theorem bX11_factOfLocker_8 (B : Bd p s m args meth c cX11_factOfLocker 4 (wsOf yX11_factOfLocker cX11_factOfLocker 4 (some .int)) RX11 w (some .int) "factOfLocker") {v0 : Nat} {v1 : Int32} {v2 : Int32} {t0 : Nat} {Q : State → Prop} (h1 : kd S t0 = 4) (kd : v2.toInt < 0 ∨ 4 < v2.toInt → K p l e rX11_factOfLocker s m args below meth c 4 w 0 0 Q S 73 [(0, .ref v0), (1, .int v1)] []) (k0 : v2 = 0 → K p l e rX11_factOfLocker s m args below meth c 4 w 0 0 Q S 48 [(3, .ref t0)] []) (k1 : v2 = 1 → K p l e rX11_factOfLocker s m args below meth c 4 w 0 0 Q S 56 [(3, .ref t0)] []) (k2 : v2 = 2 → K p l e rX11_factOfLocker s m args below meth c 4 w 0 0 Q S 64 [(2, .int v2), (3, .ref t0)] []) (k3 : v2 = 3 → K p l e rX11_factOfLocker s m args below meth c 4 w 0 0 Q S 64 [(2, .int v2), (3, .ref t0)] []) (k4 : v2 = 4 → K p l e rX11_factOfLocker s m args below meth c 4 w 0 0 Q S 64 [(2, .int v2), (3, .ref t0)] []) : K p l e rX11_factOfLocker s m args below meth c 4 w 0 0 Q S 8 [(0, .ref v0), (1, .int v1), (2, .int v2)] [.ref t0] := by
  refine k_cast B 3 rfl (by decide) (in_of qkRX11_134) dX11_factOfLocker_8 h1 ?_
  refine k_astore_n (lst' := [(3, .ref t0), (0, .ref v0), (1, .int v1), (2, .int v2)]) B rfl (by decide) rfl dX11_factOfLocker_11 ?_
  refine k_iload_n B 3 rfl rfl dX11_factOfLocker_12 ?_
  rcases (show v2.toInt < 0 ∨ 4 < v2.toInt ∨ v2.toInt = 0 ∨ v2.toInt = 1 ∨ v2.toInt = 2 ∨ v2.toInt = 3 ∨ v2.toInt = 4 by omega) with c | c | c | c | c | c | c
  · refine k_tabOut (tgt := 73) B dX11_factOfLocker_13 (Or.inl c) (by decide) ?_
    refine k_sub [1, 2] rfl ?_
    exact kd (Or.inl c)
  · refine k_tabOut (tgt := 73) B dX11_factOfLocker_13 (Or.inr c) (by decide) ?_
    refine k_sub [1, 2] rfl ?_
    exact kd (Or.inr c)
  · refine k_tabIn (off := 35) (tgt := 48) B dX11_factOfLocker_13 (by omega) (by omega) (by rw [c]; rfl) (by decide) ?_
    refine k_sub [0] rfl ?_
    exact k0 (Int32.toInt_inj.mp (c.trans (by decide)))
  · refine k_tabIn (off := 43) (tgt := 56) B dX11_factOfLocker_13 (by omega) (by omega) (by rw [c]; rfl) (by decide) ?_
    refine k_sub [0] rfl ?_
    exact k1 (Int32.toInt_inj.mp (c.trans (by decide)))
  · refine k_tabIn (off := 51) (tgt := 64) B dX11_factOfLocker_13 (by omega) (by omega) (by rw [c]; rfl) (by decide) ?_
    refine k_sub [3, 0] rfl ?_
    exact k2 (Int32.toInt_inj.mp (c.trans (by decide)))
  · refine k_tabIn (off := 51) (tgt := 64) B dX11_factOfLocker_13 (by omega) (by omega) (by rw [c]; rfl) (by decide) ?_
    refine k_sub [3, 0] rfl ?_
    exact k3 (Int32.toInt_inj.mp (c.trans (by decide)))
  · refine k_tabIn (off := 51) (tgt := 64) B dX11_factOfLocker_13 (by omega) (by omega) (by rw [c]; rfl) (by decide) ?_
    refine k_sub [3, 0] rfl ?_
    exact k4 (Int32.toInt_inj.mp (c.trans (by decide)))
theorem bX11_factOfLocker_48 (B : Bd p s m args meth c cX11_factOfLocker 4 (wsOf yX11_factOfLocker cX11_factOfLocker 4 (some .int)) RX11 w (some .int) "factOfLocker") {v3 : Nat} {x1 : Nat} {post : Int32 → St → Prop} (h1 : kd S v3 = 4) (h2 : gP S 192 v3 = some x1) (h3 : kd S x1 = 6) (hq : post (gI S 320 x1) S) : K p l e rX11_factOfLocker s m args below meth c 4 w 0 0 (MQ below (va_Qi post (fun S' t => Hd w S' t.heap) (wA w)) args s 0 0 (wA w)) S 48 [(3, .ref v3)] [] := by
  refine k_aload_n B 0 rfl rfl dX11_factOfLocker_48 ?_
  refine k_getP (f := 192) (r := gP S 192 v3) B 3 0 rfl (by decide) rfl (by decide) rfl rfl (fun w h => in_of (uw_3 w h)) (in_of qfRX11_339) dX11_factOfLocker_49 h1 rfl ?_
  rw [h2]; change K _ _ _ _ _ _ _ _ _ _ _ _ _ _ _ _ _ _ (.ref x1 :: _)
  refine k_getI (f := 320) (v := gI S 320 x1) B 5 0 rfl (by decide) rfl (by decide) rfl rfl (fun w h => in_of (uw_5 w h)) (in_of qfRX11_94) dX11_factOfLocker_52 h3 rfl ?_
  exact ret_I B rfl dX11_factOfLocker_55 (hq)
theorem bX11_factOfLocker_56 (B : Bd p s m args meth c cX11_factOfLocker 4 (wsOf yX11_factOfLocker cX11_factOfLocker 4 (some .int)) RX11 w (some .int) "factOfLocker") {v3 : Nat} {x1 : Nat} {post : Int32 → St → Prop} (h1 : kd S v3 = 4) (h2 : gP S 192 v3 = some x1) (h3 : kd S x1 = 6) (hq : post (gI S 321 x1) S) : K p l e rX11_factOfLocker s m args below meth c 4 w 0 0 (MQ below (va_Qi post (fun S' t => Hd w S' t.heap) (wA w)) args s 0 0 (wA w)) S 56 [(3, .ref v3)] [] := by
  refine k_aload_n B 0 rfl rfl dX11_factOfLocker_56 ?_
  refine k_getP (f := 192) (r := gP S 192 v3) B 3 0 rfl (by decide) rfl (by decide) rfl rfl (fun w h => in_of (uw_3 w h)) (in_of qfRX11_339) dX11_factOfLocker_57 h1 rfl ?_
  rw [h2]; change K _ _ _ _ _ _ _ _ _ _ _ _ _ _ _ _ _ _ (.ref x1 :: _)
  refine k_getI (f := 321) (v := gI S 321 x1) B 5 1 rfl (by decide) rfl (by decide) rfl rfl (fun w h => in_of (uw_5 w h)) (in_of qfRX11_97) dX11_factOfLocker_60 h3 rfl ?_
  exact ret_I B rfl dX11_factOfLocker_63 (hq)
theorem bX11_factOfLocker_64 (B : Bd p s m args meth c cX11_factOfLocker 4 (wsOf yX11_factOfLocker cX11_factOfLocker 4 (some .int)) RX11 w (some .int) "factOfLocker") {v2 : Int32} {v3 : Nat} {x1 : Nat} {post : Int32 → St → Prop} (h1 : kd S v3 = 4) (h2 : gP S 193 v3 = some x1) (h3 : kd S x1 = 21) (h4 : vp_in (v2 - 2) (ln S x1)) (hq : post ((rI S x1) (v2 - 2).toNatClampNeg) S) : K p l e rX11_factOfLocker s m args below meth c 4 w 0 0 (MQ below (va_Qi post (fun S' t => Hd w S' t.heap) (wA w)) args s 0 0 (wA w)) S 64 [(2, .int v2), (3, .ref v3)] [] := by
  refine k_aload_n B 1 rfl rfl dX11_factOfLocker_64 ?_
  refine k_getP (f := 193) (r := gP S 193 v3) B 3 1 rfl (by decide) rfl (by decide) rfl rfl (fun w h => in_of (uw_3 w h)) (in_of qfRX11_340) dX11_factOfLocker_65 h1 rfl ?_
  rw [h2]; change K _ _ _ _ _ _ _ _ _ _ _ _ _ _ _ _ _ _ (.ref x1 :: _)
  refine k_iload_n B 0 rfl rfl dX11_factOfLocker_68 ?_
  refine k_iconst (v := 2) B (by decide) dX11_factOfLocker_69 ?_
  refine k_isub B dX11_factOfLocker_70 ?_
  refine k_iald (v := (rI S x1) (v2 - 2).toNatClampNeg) B dX11_factOfLocker_71 h3 h4 rfl ?_
  exact ret_I B rfl dX11_factOfLocker_72 (hq)
theorem bX11_factOfLocker_73 (B : Bd p s m args meth c cX11_factOfLocker 4 (wsOf yX11_factOfLocker cX11_factOfLocker 4 (some .int)) RX11 w (some .int) "factOfLocker") {v0 : Nat} {v1 : Int32} {post : Int32 → St → Prop} {Q : State → Prop} (hc : ConI l yX11_lyingAt (wsOf yX11_lyingAt cX11_lyingAt 6 (some .int)) rX11_lyingAt w S [.ref v0, .int 2, .int v1] post) (h1 : kd S v0 = 13) (kk : ∀ (r : Int32) (S' : St), post r S' → K p l e rX11_factOfLocker s m args below meth c 4 w 0 0 Q S' 79 [] [.int r]) : K p l e rX11_factOfLocker s m args below meth c 4 w 0 0 Q S 73 [(0, .ref v0), (1, .int v1)] [] := by
  refine k_aload_n B 0 rfl rfl dX11_factOfLocker_73 ?_
  refine k_iconst (v := 2) B (by decide) dX11_factOfLocker_74 ?_
  refine k_iload_n B 1 rfl rfl dX11_factOfLocker_75 ?_
  refine callV_I (st := []) B [.int 2, .int v1] (hc) (cwV 2 B.1.2.2.2.2 (gV qlRX11_336 qiX11_lyingAt qeX11_lyingAt qzRX11 qcX11_lyingAt) rfl rfl rfl (by decide +kernel) ⟨Nat.le_of_ble_eq_true rfl, Nat.le_of_ble_eq_true rfl⟩) rfl rfl (by decide) h1 (Nat.le_of_ble_eq_true rfl) rfl dX11_factOfLocker_76 ⟨Nat.le_of_ble_eq_true rfl, Nat.le_of_ble_eq_true rfl⟩ (fun r S' hp => ?_)
  refine k_sub [] rfl ?_
  exact kk r S' hp
theorem bX11_factOfLocker_79 (B : Bd p s m args meth c cX11_factOfLocker 4 (wsOf yX11_factOfLocker cX11_factOfLocker 4 (some .int)) RX11 w (some .int) "factOfLocker") {t0 : Int32} {post : Int32 → St → Prop}  (hq : post t0 S) : K p l e rX11_factOfLocker s m args below meth c 4 w 0 0 (MQ below (va_Qi post (fun S' t => Hd w S' t.heap) (wA w)) args s 0 0 (wA w)) S 79 [] [.int t0] := by
  exact ret_I B rfl dX11_factOfLocker_79 (hq)
theorem bX11_factOfParcel_0 (B : Bd p s m args meth c cX11_factOfParcel 3 (wsOf yX11_factOfParcel cX11_factOfParcel 3 (some .int)) RX11 w (some .int) "factOfParcel") {v0 : Nat} {v1 : Nat} {v2 : Int32} {Q : State → Prop}  (kd : v2.toInt < 0 ∨ 7 < v2.toInt → K p l e rX11_factOfParcel s m args below meth c 3 w 0 0 Q S 102 [(1, .ref v1)] []) (k0 : v2 = 0 → K p l e rX11_factOfParcel s m args below meth c 3 w 0 0 Q S 48 [(1, .ref v1)] []) (k1 : v2 = 1 → K p l e rX11_factOfParcel s m args below meth c 3 w 0 0 Q S 53 [(1, .ref v1)] []) (k2 : v2 = 2 → K p l e rX11_factOfParcel s m args below meth c 3 w 0 0 Q S 58 [(1, .ref v1)] []) (k3 : v2 = 3 → K p l e rX11_factOfParcel s m args below meth c 3 w 0 0 Q S 63 [(1, .ref v1)] []) (k4 : v2 = 4 → K p l e rX11_factOfParcel s m args below meth c 3 w 0 0 Q S 68 [(1, .ref v1)] []) (k5 : v2 = 5 → K p l e rX11_factOfParcel s m args below meth c 3 w 0 0 Q S 73 [(1, .ref v1)] []) (k6 : v2 = 6 → K p l e rX11_factOfParcel s m args below meth c 3 w 0 0 Q S 78 [(1, .ref v1)] []) (k7 : v2 = 7 → K p l e rX11_factOfParcel s m args below meth c 3 w 0 0 Q S 83 [(1, .ref v1)] []) : K p l e rX11_factOfParcel s m args below meth c 3 w 0 0 Q S 0 [(0, .ref v0), (1, .ref v1), (2, .int v2)] [] := by
  refine k_iload_n B 2 rfl rfl dX11_factOfParcel_0 ?_
  rcases (show v2.toInt < 0 ∨ 7 < v2.toInt ∨ v2.toInt = 0 ∨ v2.toInt = 1 ∨ v2.toInt = 2 ∨ v2.toInt = 3 ∨ v2.toInt = 4 ∨ v2.toInt = 5 ∨ v2.toInt = 6 ∨ v2.toInt = 7 by omega) with c | c | c | c | c | c | c | c | c | c
  · refine k_tabOut (tgt := 102) B dX11_factOfParcel_1 (Or.inl c) (by decide) ?_
    refine k_sub [1] rfl ?_
    exact kd (Or.inl c)
  · refine k_tabOut (tgt := 102) B dX11_factOfParcel_1 (Or.inr c) (by decide) ?_
    refine k_sub [1] rfl ?_
    exact kd (Or.inr c)
  · refine k_tabIn (off := 47) (tgt := 48) B dX11_factOfParcel_1 (by omega) (by omega) (by rw [c]; rfl) (by decide) ?_
    refine k_sub [1] rfl ?_
    exact k0 (Int32.toInt_inj.mp (c.trans (by decide)))
  · refine k_tabIn (off := 52) (tgt := 53) B dX11_factOfParcel_1 (by omega) (by omega) (by rw [c]; rfl) (by decide) ?_
    refine k_sub [1] rfl ?_
    exact k1 (Int32.toInt_inj.mp (c.trans (by decide)))
  · refine k_tabIn (off := 57) (tgt := 58) B dX11_factOfParcel_1 (by omega) (by omega) (by rw [c]; rfl) (by decide) ?_
    refine k_sub [1] rfl ?_
    exact k2 (Int32.toInt_inj.mp (c.trans (by decide)))
  · refine k_tabIn (off := 62) (tgt := 63) B dX11_factOfParcel_1 (by omega) (by omega) (by rw [c]; rfl) (by decide) ?_
    refine k_sub [1] rfl ?_
    exact k3 (Int32.toInt_inj.mp (c.trans (by decide)))
  · refine k_tabIn (off := 67) (tgt := 68) B dX11_factOfParcel_1 (by omega) (by omega) (by rw [c]; rfl) (by decide) ?_
    refine k_sub [1] rfl ?_
    exact k4 (Int32.toInt_inj.mp (c.trans (by decide)))
  · refine k_tabIn (off := 72) (tgt := 73) B dX11_factOfParcel_1 (by omega) (by omega) (by rw [c]; rfl) (by decide) ?_
    refine k_sub [1] rfl ?_
    exact k5 (Int32.toInt_inj.mp (c.trans (by decide)))
  · refine k_tabIn (off := 77) (tgt := 78) B dX11_factOfParcel_1 (by omega) (by omega) (by rw [c]; rfl) (by decide) ?_
    refine k_sub [1] rfl ?_
    exact k6 (Int32.toInt_inj.mp (c.trans (by decide)))
  · refine k_tabIn (off := 82) (tgt := 83) B dX11_factOfParcel_1 (by omega) (by omega) (by rw [c]; rfl) (by decide) ?_
    refine k_sub [1] rfl ?_
    exact k7 (Int32.toInt_inj.mp (c.trans (by decide)))
theorem bX11_factOfParcel_48 (B : Bd p s m args meth c cX11_factOfParcel 3 (wsOf yX11_factOfParcel cX11_factOfParcel 3 (some .int)) RX11 w (some .int) "factOfParcel") {v1 : Nat} {post : Int32 → St → Prop} (h1 : kd S v1 = 5) (hq : post (gI S 257 v1) S) : K p l e rX11_factOfParcel s m args below meth c 3 w 0 0 (MQ below (va_Qi post (fun S' t => Hd w S' t.heap) (wA w)) args s 0 0 (wA w)) S 48 [(1, .ref v1)] [] := by
  refine k_aload_n B 0 rfl rfl dX11_factOfParcel_48 ?_
  refine k_getI (f := 257) (v := gI S 257 v1) B 4 1 rfl (by decide) rfl (by decide) rfl rfl (fun w h => in_of (uw_4 w h)) (in_of qfRX11_343) dX11_factOfParcel_49 h1 rfl ?_
  exact ret_I B rfl dX11_factOfParcel_52 (hq)
theorem bX11_factOfParcel_53 (B : Bd p s m args meth c cX11_factOfParcel 3 (wsOf yX11_factOfParcel cX11_factOfParcel 3 (some .int)) RX11 w (some .int) "factOfParcel") {v1 : Nat} {post : Int32 → St → Prop} (h1 : kd S v1 = 5) (hq : post (gI S 258 v1) S) : K p l e rX11_factOfParcel s m args below meth c 3 w 0 0 (MQ below (va_Qi post (fun S' t => Hd w S' t.heap) (wA w)) args s 0 0 (wA w)) S 53 [(1, .ref v1)] [] := by
  refine k_aload_n B 0 rfl rfl dX11_factOfParcel_53 ?_
  refine k_getI (f := 258) (v := gI S 258 v1) B 4 2 rfl (by decide) rfl (by decide) rfl rfl (fun w h => in_of (uw_4 w h)) (in_of qfRX11_346) dX11_factOfParcel_54 h1 rfl ?_
  exact ret_I B rfl dX11_factOfParcel_57 (hq)
theorem bX11_factOfParcel_58 (B : Bd p s m args meth c cX11_factOfParcel 3 (wsOf yX11_factOfParcel cX11_factOfParcel 3 (some .int)) RX11 w (some .int) "factOfParcel") {v1 : Nat} {post : Int32 → St → Prop} (h1 : kd S v1 = 5) (hq : post (gI S 259 v1) S) : K p l e rX11_factOfParcel s m args below meth c 3 w 0 0 (MQ below (va_Qi post (fun S' t => Hd w S' t.heap) (wA w)) args s 0 0 (wA w)) S 58 [(1, .ref v1)] [] := by
  refine k_aload_n B 0 rfl rfl dX11_factOfParcel_58 ?_
  refine k_getI (f := 259) (v := gI S 259 v1) B 4 3 rfl (by decide) rfl (by decide) rfl rfl (fun w h => in_of (uw_4 w h)) (in_of qfRX11_349) dX11_factOfParcel_59 h1 rfl ?_
  exact ret_I B rfl dX11_factOfParcel_62 (hq)
theorem bX11_factOfParcel_63 (B : Bd p s m args meth c cX11_factOfParcel 3 (wsOf yX11_factOfParcel cX11_factOfParcel 3 (some .int)) RX11 w (some .int) "factOfParcel") {v1 : Nat} {post : Int32 → St → Prop} (h1 : kd S v1 = 5) (hq : post (gI S 261 v1) S) : K p l e rX11_factOfParcel s m args below meth c 3 w 0 0 (MQ below (va_Qi post (fun S' t => Hd w S' t.heap) (wA w)) args s 0 0 (wA w)) S 63 [(1, .ref v1)] [] := by
  refine k_aload_n B 0 rfl rfl dX11_factOfParcel_63 ?_
  refine k_getI (f := 261) (v := gI S 261 v1) B 4 5 rfl (by decide) rfl (by decide) rfl rfl (fun w h => in_of (uw_4 w h)) (in_of qfRX11_352) dX11_factOfParcel_64 h1 rfl ?_
  exact ret_I B rfl dX11_factOfParcel_67 (hq)
theorem bX11_factOfParcel_68 (B : Bd p s m args meth c cX11_factOfParcel 3 (wsOf yX11_factOfParcel cX11_factOfParcel 3 (some .int)) RX11 w (some .int) "factOfParcel") {v1 : Nat} {post : Int32 → St → Prop} (h1 : kd S v1 = 5) (hq : post (gI S 262 v1) S) : K p l e rX11_factOfParcel s m args below meth c 3 w 0 0 (MQ below (va_Qi post (fun S' t => Hd w S' t.heap) (wA w)) args s 0 0 (wA w)) S 68 [(1, .ref v1)] [] := by
  refine k_aload_n B 0 rfl rfl dX11_factOfParcel_68 ?_
  refine k_getI (f := 262) (v := gI S 262 v1) B 4 6 rfl (by decide) rfl (by decide) rfl rfl (fun w h => in_of (uw_4 w h)) (in_of qfRX11_355) dX11_factOfParcel_69 h1 rfl ?_
  exact ret_I B rfl dX11_factOfParcel_72 (hq)
theorem bX11_factOfParcel_73 (B : Bd p s m args meth c cX11_factOfParcel 3 (wsOf yX11_factOfParcel cX11_factOfParcel 3 (some .int)) RX11 w (some .int) "factOfParcel") {v1 : Nat} {post : Int32 → St → Prop} (h1 : kd S v1 = 5) (hq : post (gI S 264 v1) S) : K p l e rX11_factOfParcel s m args below meth c 3 w 0 0 (MQ below (va_Qi post (fun S' t => Hd w S' t.heap) (wA w)) args s 0 0 (wA w)) S 73 [(1, .ref v1)] [] := by
  refine k_aload_n B 0 rfl rfl dX11_factOfParcel_73 ?_
  refine k_getI (f := 264) (v := gI S 264 v1) B 4 8 rfl (by decide) rfl (by decide) rfl rfl (fun w h => in_of (uw_4 w h)) (in_of qfRX11_292) dX11_factOfParcel_74 h1 rfl ?_
  exact ret_I B rfl dX11_factOfParcel_77 (hq)
theorem bX11_factOfParcel_78 (B : Bd p s m args meth c cX11_factOfParcel 3 (wsOf yX11_factOfParcel cX11_factOfParcel 3 (some .int)) RX11 w (some .int) "factOfParcel") {v1 : Nat} {post : Int32 → St → Prop} (h1 : kd S v1 = 5) (hq : post (gI S 265 v1) S) : K p l e rX11_factOfParcel s m args below meth c 3 w 0 0 (MQ below (va_Qi post (fun S' t => Hd w S' t.heap) (wA w)) args s 0 0 (wA w)) S 78 [(1, .ref v1)] [] := by
  refine k_aload_n B 0 rfl rfl dX11_factOfParcel_78 ?_
  refine k_getI (f := 265) (v := gI S 265 v1) B 4 9 rfl (by decide) rfl (by decide) rfl rfl (fun w h => in_of (uw_4 w h)) (in_of qfRX11_358) dX11_factOfParcel_79 h1 rfl ?_
  exact ret_I B rfl dX11_factOfParcel_82 (hq)
theorem bX11_factOfParcel_83 (B : Bd p s m args meth c cX11_factOfParcel 3 (wsOf yX11_factOfParcel cX11_factOfParcel 3 (some .int)) RX11 w (some .int) "factOfParcel") {v1 : Nat} {Q : State → Prop} (h1 : kd S v1 = 5) (kt : ∀ x, gP S 263 v1 = some x → K p l e rX11_factOfParcel s m args below meth c 3 w 0 0 Q S 94 [(1, .ref v1)] []) (kf : gP S 263 v1 = none → K p l e rX11_factOfParcel s m args below meth c 3 w 0 0 Q S 90 [] []) : K p l e rX11_factOfParcel s m args below meth c 3 w 0 0 Q S 83 [(1, .ref v1)] [] := by
  refine k_aload_n B 0 rfl rfl dX11_factOfParcel_83 ?_
  refine k_getP (f := 263) (r := gP S 263 v1) B 4 7 rfl (by decide) rfl (by decide) rfl rfl (fun w h => in_of (uw_4 w h)) (in_of qfRX11_181) dX11_factOfParcel_84 h1 rfl ?_
  refine k_ifnonnull (r := gP S 263 v1) (tgt := 94) B dX11_factOfParcel_87 (by decide) (fun x c => ?_) (fun c => ?_)
  · exact kt x c
  · refine k_sub [] rfl ?_
    exact kf c
theorem bX11_factOfParcel_90 (B : Bd p s m args meth c cX11_factOfParcel 3 (wsOf yX11_factOfParcel cX11_factOfParcel 3 (some .int)) RX11 w (some .int) "factOfParcel") {Q : State → Prop}  (kk : K p l e rX11_factOfParcel s m args below meth c 3 w 0 0 Q S 101 [] [.int (-1)]) : K p l e rX11_factOfParcel s m args below meth c 3 w 0 0 Q S 90 [] [] := by
  refine k_iconst (v := (-1)) B (by decide) dX11_factOfParcel_90 ?_
  refine k_goto (tgt := 101) B dX11_factOfParcel_91 (by decide) ?_
  exact kk
theorem bX11_factOfParcel_94 (B : Bd p s m args meth c cX11_factOfParcel 3 (wsOf yX11_factOfParcel cX11_factOfParcel 3 (some .int)) RX11 w (some .int) "factOfParcel") {v1 : Nat} {x1 : Nat} {Q : State → Prop} (h1 : kd S v1 = 5) (h2 : gP S 263 v1 = some x1) (h3 : kd S x1 = 12) (kk : K p l e rX11_factOfParcel s m args below meth c 3 w 0 0 Q S 101 [] [.int (gI S 704 x1)]) : K p l e rX11_factOfParcel s m args below meth c 3 w 0 0 Q S 94 [(1, .ref v1)] [] := by
  refine k_aload_n B 0 rfl rfl dX11_factOfParcel_94 ?_
  refine k_getP (f := 263) (r := gP S 263 v1) B 4 7 rfl (by decide) rfl (by decide) rfl rfl (fun w h => in_of (uw_4 w h)) (in_of qfRX11_181) dX11_factOfParcel_95 h1 rfl ?_
  rw [h2]; change K _ _ _ _ _ _ _ _ _ _ _ _ _ _ _ _ _ _ (.ref x1 :: _)
  refine k_getI (f := 704) (v := gI S 704 x1) B 11 0 rfl (by decide) rfl (by decide) rfl rfl (fun w h => in_of (uw_11 w h)) (in_of qfRX11_361) dX11_factOfParcel_98 h3 rfl ?_
  refine k_sub [] rfl ?_
  exact kk
theorem bX11_factOfParcel_101 (B : Bd p s m args meth c cX11_factOfParcel 3 (wsOf yX11_factOfParcel cX11_factOfParcel 3 (some .int)) RX11 w (some .int) "factOfParcel") {t0 : Int32} {post : Int32 → St → Prop}  (hq : post t0 S) : K p l e rX11_factOfParcel s m args below meth c 3 w 0 0 (MQ below (va_Qi post (fun S' t => Hd w S' t.heap) (wA w)) args s 0 0 (wA w)) S 101 [] [.int t0] := by
  exact ret_I B rfl dX11_factOfParcel_101 (hq)
theorem bX11_factOfParcel_102 (B : Bd p s m args meth c cX11_factOfParcel 3 (wsOf yX11_factOfParcel cX11_factOfParcel 3 (some .int)) RX11 w (some .int) "factOfParcel") {v1 : Nat} {post : Int32 → St → Prop} (h1 : kd S v1 = 5) (hq : post (gI S 266 v1) S) : K p l e rX11_factOfParcel s m args below meth c 3 w 0 0 (MQ below (va_Qi post (fun S' t => Hd w S' t.heap) (wA w)) args s 0 0 (wA w)) S 102 [(1, .ref v1)] [] := by
  refine k_aload_n B 0 rfl rfl dX11_factOfParcel_102 ?_
  refine k_getI (f := 266) (v := gI S 266 v1) B 4 10 rfl (by decide) rfl (by decide) rfl rfl (fun w h => in_of (uw_4 w h)) (in_of qfRX11_362) dX11_factOfParcel_103 h1 rfl ?_
  exact ret_I B rfl dX11_factOfParcel_106 (hq)
theorem bX11_factOfVan_0 (B : Bd p s m args meth c cX11_factOfVan 4 (wsOf yX11_factOfVan cX11_factOfVan 4 (some .int)) RX11 w (some .int) "factOfVan") {v0 : Nat} {v1 : Nat} {v2 : Int32} {x1 : Nat} {x2 : Nat} {post : Int32 → St → Prop} {Q : State → Prop} (h1 : kd S v0 = 13) (h2 : gP S 773 v0 = some x1) (h3 : kd S v1 = 12) (h4 : gP S 708 v1 = some x2) (hc : ConI l yX7_follow (wsOf yX7_follow cX7_follow 6 (some .int)) rX7_follow w S [.ref x1, .ref v1, .ref x2] post) (h5 : kd S x1 = 9) (kk : ∀ (r : Int32) (S' : St), post r S' → K p l e rX11_factOfVan s m args below meth c 4 w 0 0 Q S' 12 [(0, .ref v0), (1, .ref v1), (2, .int v2)] [.int r]) : K p l e rX11_factOfVan s m args below meth c 4 w 0 0 Q S 0 [(0, .ref v0), (1, .ref v1), (2, .int v2)] [] := by
  refine k_aload_n B 0 rfl rfl dX11_factOfVan_0 ?_
  refine k_getP (f := 773) (r := gP S 773 v0) B 12 5 rfl (by decide) rfl (by decide) rfl rfl (fun w h => in_of (uw_12 w h)) (in_of qfRX11_37) dX11_factOfVan_1 h1 rfl ?_
  rw [h2]; change K _ _ _ _ _ _ _ _ _ _ _ _ _ _ _ _ _ _ (.ref x1 :: _)
  refine k_aload_n B 1 rfl rfl dX11_factOfVan_4 ?_
  refine k_aload_n B 1 rfl rfl dX11_factOfVan_5 ?_
  refine k_getP (f := 708) (r := gP S 708 v1) B 11 4 rfl (by decide) rfl (by decide) rfl rfl (fun w h => in_of (uw_11 w h)) (in_of qfRX11_187) dX11_factOfVan_6 h3 rfl ?_
  rw [h4]; change K _ _ _ _ _ _ _ _ _ _ _ _ _ _ _ _ _ _ (.ref x2 :: _)
  refine callV_I (st := []) B [.ref v1, .ref x2] (hc) (cwV 2 B.1.2.2.2.2 (gV qlRX11_190 qiX7_follow qeX7_follow qzRX7 qcX7_follow) rfl rfl rfl (by decide +kernel) ⟨Nat.le_of_ble_eq_true rfl, Nat.le_of_ble_eq_true rfl⟩) rfl rfl (by decide) h5 (Nat.le_of_ble_eq_true rfl) rfl dX11_factOfVan_9 ⟨Nat.le_of_ble_eq_true rfl, Nat.le_of_ble_eq_true rfl⟩ (fun r S' hp => ?_)
  exact kk r S' hp
theorem bX11_factOfVan_12 (B : Bd p s m args meth c cX11_factOfVan 4 (wsOf yX11_factOfVan cX11_factOfVan 4 (some .int)) RX11 w (some .int) "factOfVan") {v0 : Nat} {v1 : Nat} {v2 : Int32} {t0 : Int32} {Q : State → Prop}  (kd : v2.toInt < 0 ∨ 8 < v2.toInt → K p l e rX11_factOfVan s m args below meth c 4 w 0 0 Q S 130 [(1, .ref v1)] []) (k0 : v2 = 0 → K p l e rX11_factOfVan s m args below meth c 4 w 0 0 Q S 64 [(1, .ref v1)] []) (k1 : v2 = 1 → K p l e rX11_factOfVan s m args below meth c 4 w 0 0 Q S 69 [(1, .ref v1)] []) (k2 : v2 = 2 → K p l e rX11_factOfVan s m args below meth c 4 w 0 0 Q S 74 [(1, .ref v1)] []) (k3 : v2 = 3 → K p l e rX11_factOfVan s m args below meth c 4 w 0 0 Q S 79 [(1, .ref v1)] []) (k4 : v2 = 4 → K p l e rX11_factOfVan s m args below meth c 4 w 0 0 Q S 87 [(3, .int t0)] []) (k5 : v2 = 5 → K p l e rX11_factOfVan s m args below meth c 4 w 0 0 Q S 89 [(0, .ref v0)] []) (k6 : v2 = 6 → K p l e rX11_factOfVan s m args below meth c 4 w 0 0 Q S 100 [(0, .ref v0)] []) (k7 : v2 = 7 → K p l e rX11_factOfVan s m args below meth c 4 w 0 0 Q S 108 [(0, .ref v0)] []) (k8 : v2 = 8 → K p l e rX11_factOfVan s m args below meth c 4 w 0 0 Q S 119 [(0, .ref v0)] []) : K p l e rX11_factOfVan s m args below meth c 4 w 0 0 Q S 12 [(0, .ref v0), (1, .ref v1), (2, .int v2)] [.int t0] := by
  refine k_istore_n (lst' := [(3, .int t0), (0, .ref v0), (1, .ref v1), (2, .int v2)]) B rfl (by decide) rfl dX11_factOfVan_12 ?_
  refine k_iload_n B 3 rfl rfl dX11_factOfVan_13 ?_
  rcases (show v2.toInt < 0 ∨ 8 < v2.toInt ∨ v2.toInt = 0 ∨ v2.toInt = 1 ∨ v2.toInt = 2 ∨ v2.toInt = 3 ∨ v2.toInt = 4 ∨ v2.toInt = 5 ∨ v2.toInt = 6 ∨ v2.toInt = 7 ∨ v2.toInt = 8 by omega) with c | c | c | c | c | c | c | c | c | c | c
  · refine k_tabOut (tgt := 130) B dX11_factOfVan_14 (Or.inl c) (by decide) ?_
    refine k_sub [2] rfl ?_
    exact kd (Or.inl c)
  · refine k_tabOut (tgt := 130) B dX11_factOfVan_14 (Or.inr c) (by decide) ?_
    refine k_sub [2] rfl ?_
    exact kd (Or.inr c)
  · refine k_tabIn (off := 50) (tgt := 64) B dX11_factOfVan_14 (by omega) (by omega) (by rw [c]; rfl) (by decide) ?_
    refine k_sub [2] rfl ?_
    exact k0 (Int32.toInt_inj.mp (c.trans (by decide)))
  · refine k_tabIn (off := 55) (tgt := 69) B dX11_factOfVan_14 (by omega) (by omega) (by rw [c]; rfl) (by decide) ?_
    refine k_sub [2] rfl ?_
    exact k1 (Int32.toInt_inj.mp (c.trans (by decide)))
  · refine k_tabIn (off := 60) (tgt := 74) B dX11_factOfVan_14 (by omega) (by omega) (by rw [c]; rfl) (by decide) ?_
    refine k_sub [2] rfl ?_
    exact k2 (Int32.toInt_inj.mp (c.trans (by decide)))
  · refine k_tabIn (off := 65) (tgt := 79) B dX11_factOfVan_14 (by omega) (by omega) (by rw [c]; rfl) (by decide) ?_
    refine k_sub [2] rfl ?_
    exact k3 (Int32.toInt_inj.mp (c.trans (by decide)))
  · refine k_tabIn (off := 73) (tgt := 87) B dX11_factOfVan_14 (by omega) (by omega) (by rw [c]; rfl) (by decide) ?_
    refine k_sub [0] rfl ?_
    exact k4 (Int32.toInt_inj.mp (c.trans (by decide)))
  · refine k_tabIn (off := 75) (tgt := 89) B dX11_factOfVan_14 (by omega) (by omega) (by rw [c]; rfl) (by decide) ?_
    refine k_sub [1] rfl ?_
    exact k5 (Int32.toInt_inj.mp (c.trans (by decide)))
  · refine k_tabIn (off := 86) (tgt := 100) B dX11_factOfVan_14 (by omega) (by omega) (by rw [c]; rfl) (by decide) ?_
    refine k_sub [1] rfl ?_
    exact k6 (Int32.toInt_inj.mp (c.trans (by decide)))
  · refine k_tabIn (off := 94) (tgt := 108) B dX11_factOfVan_14 (by omega) (by omega) (by rw [c]; rfl) (by decide) ?_
    refine k_sub [1] rfl ?_
    exact k7 (Int32.toInt_inj.mp (c.trans (by decide)))
  · refine k_tabIn (off := 105) (tgt := 119) B dX11_factOfVan_14 (by omega) (by omega) (by rw [c]; rfl) (by decide) ?_
    refine k_sub [1] rfl ?_
    exact k8 (Int32.toInt_inj.mp (c.trans (by decide)))
theorem bX11_factOfVan_64 (B : Bd p s m args meth c cX11_factOfVan 4 (wsOf yX11_factOfVan cX11_factOfVan 4 (some .int)) RX11 w (some .int) "factOfVan") {v1 : Nat} {post : Int32 → St → Prop} (h1 : kd S v1 = 12) (hq : post (gI S 705 v1) S) : K p l e rX11_factOfVan s m args below meth c 4 w 0 0 (MQ below (va_Qi post (fun S' t => Hd w S' t.heap) (wA w)) args s 0 0 (wA w)) S 64 [(1, .ref v1)] [] := by
  refine k_aload_n B 0 rfl rfl dX11_factOfVan_64 ?_
  refine k_getI (f := 705) (v := gI S 705 v1) B 11 1 rfl (by decide) rfl (by decide) rfl rfl (fun w h => in_of (uw_11 w h)) (in_of qfRX11_255) dX11_factOfVan_65 h1 rfl ?_
  exact ret_I B rfl dX11_factOfVan_68 (hq)
theorem bX11_factOfVan_69 (B : Bd p s m args meth c cX11_factOfVan 4 (wsOf yX11_factOfVan cX11_factOfVan 4 (some .int)) RX11 w (some .int) "factOfVan") {v1 : Nat} {post : Int32 → St → Prop} (h1 : kd S v1 = 12) (hq : post (gI S 706 v1) S) : K p l e rX11_factOfVan s m args below meth c 4 w 0 0 (MQ below (va_Qi post (fun S' t => Hd w S' t.heap) (wA w)) args s 0 0 (wA w)) S 69 [(1, .ref v1)] [] := by
  refine k_aload_n B 0 rfl rfl dX11_factOfVan_69 ?_
  refine k_getI (f := 706) (v := gI S 706 v1) B 11 2 rfl (by decide) rfl (by decide) rfl rfl (fun w h => in_of (uw_11 w h)) (in_of qfRX11_365) dX11_factOfVan_70 h1 rfl ?_
  exact ret_I B rfl dX11_factOfVan_73 (hq)
theorem bX11_factOfVan_74 (B : Bd p s m args meth c cX11_factOfVan 4 (wsOf yX11_factOfVan cX11_factOfVan 4 (some .int)) RX11 w (some .int) "factOfVan") {v1 : Nat} {post : Int32 → St → Prop} (h1 : kd S v1 = 12) (hq : post (gI S 707 v1) S) : K p l e rX11_factOfVan s m args below meth c 4 w 0 0 (MQ below (va_Qi post (fun S' t => Hd w S' t.heap) (wA w)) args s 0 0 (wA w)) S 74 [(1, .ref v1)] [] := by
  refine k_aload_n B 0 rfl rfl dX11_factOfVan_74 ?_
  refine k_getI (f := 707) (v := gI S 707 v1) B 11 3 rfl (by decide) rfl (by decide) rfl rfl (fun w h => in_of (uw_11 w h)) (in_of qfRX11_368) dX11_factOfVan_75 h1 rfl ?_
  exact ret_I B rfl dX11_factOfVan_78 (hq)
theorem bX11_factOfVan_79 (B : Bd p s m args meth c cX11_factOfVan 4 (wsOf yX11_factOfVan cX11_factOfVan 4 (some .int)) RX11 w (some .int) "factOfVan") {v1 : Nat} {x1 : Nat} {post : Int32 → St → Prop} (h1 : kd S v1 = 12) (h2 : gP S 708 v1 = some x1) (h3 : kd S x1 = 8) (hq : post (gI S 449 x1) S) : K p l e rX11_factOfVan s m args below meth c 4 w 0 0 (MQ below (va_Qi post (fun S' t => Hd w S' t.heap) (wA w)) args s 0 0 (wA w)) S 79 [(1, .ref v1)] [] := by
  refine k_aload_n B 0 rfl rfl dX11_factOfVan_79 ?_
  refine k_getP (f := 708) (r := gP S 708 v1) B 11 4 rfl (by decide) rfl (by decide) rfl rfl (fun w h => in_of (uw_11 w h)) (in_of qfRX11_187) dX11_factOfVan_80 h1 rfl ?_
  rw [h2]; change K _ _ _ _ _ _ _ _ _ _ _ _ _ _ _ _ _ _ (.ref x1 :: _)
  refine k_getI (f := 449) (v := gI S 449 x1) B 7 1 rfl (by decide) rfl (by decide) rfl rfl (fun w h => in_of (uw_7 w h)) (in_of qfRX11_246) dX11_factOfVan_83 h3 rfl ?_
  exact ret_I B rfl dX11_factOfVan_86 (hq)
theorem bX11_factOfVan_87 (B : Bd p s m args meth c cX11_factOfVan 4 (wsOf yX11_factOfVan cX11_factOfVan 4 (some .int)) RX11 w (some .int) "factOfVan") {v3 : Int32} {post : Int32 → St → Prop}  (hq : post v3 S) : K p l e rX11_factOfVan s m args below meth c 4 w 0 0 (MQ below (va_Qi post (fun S' t => Hd w S' t.heap) (wA w)) args s 0 0 (wA w)) S 87 [(3, .int v3)] [] := by
  refine k_iload_n B 0 rfl rfl dX11_factOfVan_87 ?_
  exact ret_I B rfl dX11_factOfVan_88 (hq)
theorem bX11_factOfVan_89 (B : Bd p s m args meth c cX11_factOfVan 4 (wsOf yX11_factOfVan cX11_factOfVan 4 (some .int)) RX11 w (some .int) "factOfVan") {v0 : Nat} {x1 : Nat} {x2 : Nat} {post : Int32 → St → Prop} (h1 : kd S v0 = 13) (h2 : gP S 773 v0 = some x1) (h3 : kd S x1 = 9) (h4 : gP S 513 x1 = some x2) (h5 : kd S x2 = 11) (hq : post (gI S 644 x2) S) : K p l e rX11_factOfVan s m args below meth c 4 w 0 0 (MQ below (va_Qi post (fun S' t => Hd w S' t.heap) (wA w)) args s 0 0 (wA w)) S 89 [(0, .ref v0)] [] := by
  refine k_aload_n B 0 rfl rfl dX11_factOfVan_89 ?_
  refine k_getP (f := 773) (r := gP S 773 v0) B 12 5 rfl (by decide) rfl (by decide) rfl rfl (fun w h => in_of (uw_12 w h)) (in_of qfRX11_37) dX11_factOfVan_90 h1 rfl ?_
  rw [h2]; change K _ _ _ _ _ _ _ _ _ _ _ _ _ _ _ _ _ _ (.ref x1 :: _)
  refine k_getP (f := 513) (r := gP S 513 x1) B 8 1 rfl (by decide) rfl (by decide) rfl rfl (fun w h => in_of (uw_8 w h)) (in_of qfRX11_371) dX11_factOfVan_93 h3 rfl ?_
  rw [h4]; change K _ _ _ _ _ _ _ _ _ _ _ _ _ _ _ _ _ _ (.ref x2 :: _)
  refine k_getI (f := 644) (v := gI S 644 x2) B 10 4 rfl (by decide) rfl (by decide) rfl rfl (fun w h => in_of (uw_10 w h)) (in_of qfRX11_375) dX11_factOfVan_96 h5 rfl ?_
  exact ret_I B rfl dX11_factOfVan_99 (hq)
theorem bX11_factOfVan_100 (B : Bd p s m args meth c cX11_factOfVan 4 (wsOf yX11_factOfVan cX11_factOfVan 4 (some .int)) RX11 w (some .int) "factOfVan") {v0 : Nat} {x1 : Nat} {post : Int32 → St → Prop} (h1 : kd S v0 = 13) (h2 : gP S 773 v0 = some x1) (h3 : kd S x1 = 9) (hq : post (gI S 517 x1) S) : K p l e rX11_factOfVan s m args below meth c 4 w 0 0 (MQ below (va_Qi post (fun S' t => Hd w S' t.heap) (wA w)) args s 0 0 (wA w)) S 100 [(0, .ref v0)] [] := by
  refine k_aload_n B 0 rfl rfl dX11_factOfVan_100 ?_
  refine k_getP (f := 773) (r := gP S 773 v0) B 12 5 rfl (by decide) rfl (by decide) rfl rfl (fun w h => in_of (uw_12 w h)) (in_of qfRX11_37) dX11_factOfVan_101 h1 rfl ?_
  rw [h2]; change K _ _ _ _ _ _ _ _ _ _ _ _ _ _ _ _ _ _ (.ref x1 :: _)
  refine k_getI (f := 517) (v := gI S 517 x1) B 8 5 rfl (by decide) rfl (by decide) rfl rfl (fun w h => in_of (uw_8 w h)) (in_of qfRX11_380) dX11_factOfVan_104 h3 rfl ?_
  exact ret_I B rfl dX11_factOfVan_107 (hq)
theorem bX11_factOfVan_108 (B : Bd p s m args meth c cX11_factOfVan 4 (wsOf yX11_factOfVan cX11_factOfVan 4 (some .int)) RX11 w (some .int) "factOfVan") {v0 : Nat} {x1 : Nat} {x2 : Nat} {post : Int32 → St → Prop} (h1 : kd S v0 = 13) (h2 : gP S 773 v0 = some x1) (h3 : kd S x1 = 9) (h4 : gP S 513 x1 = some x2) (h5 : kd S x2 = 11) (hq : post (gI S 643 x2) S) : K p l e rX11_factOfVan s m args below meth c 4 w 0 0 (MQ below (va_Qi post (fun S' t => Hd w S' t.heap) (wA w)) args s 0 0 (wA w)) S 108 [(0, .ref v0)] [] := by
  refine k_aload_n B 0 rfl rfl dX11_factOfVan_108 ?_
  refine k_getP (f := 773) (r := gP S 773 v0) B 12 5 rfl (by decide) rfl (by decide) rfl rfl (fun w h => in_of (uw_12 w h)) (in_of qfRX11_37) dX11_factOfVan_109 h1 rfl ?_
  rw [h2]; change K _ _ _ _ _ _ _ _ _ _ _ _ _ _ _ _ _ _ (.ref x1 :: _)
  refine k_getP (f := 513) (r := gP S 513 x1) B 8 1 rfl (by decide) rfl (by decide) rfl rfl (fun w h => in_of (uw_8 w h)) (in_of qfRX11_371) dX11_factOfVan_112 h3 rfl ?_
  rw [h4]; change K _ _ _ _ _ _ _ _ _ _ _ _ _ _ _ _ _ _ (.ref x2 :: _)
  refine k_getI (f := 643) (v := gI S 643 x2) B 10 3 rfl (by decide) rfl (by decide) rfl rfl (fun w h => in_of (uw_10 w h)) (in_of qfRX11_383) dX11_factOfVan_115 h5 rfl ?_
  exact ret_I B rfl dX11_factOfVan_118 (hq)
theorem bX11_factOfVan_119 (B : Bd p s m args meth c cX11_factOfVan 4 (wsOf yX11_factOfVan cX11_factOfVan 4 (some .int)) RX11 w (some .int) "factOfVan") {v0 : Nat} {x1 : Nat} {x2 : Nat} {post : Int32 → St → Prop} (h1 : kd S v0 = 13) (h2 : gP S 773 v0 = some x1) (h3 : kd S x1 = 9) (h4 : gP S 513 x1 = some x2) (h5 : kd S x2 = 11) (hq : post (gI S 645 x2) S) : K p l e rX11_factOfVan s m args below meth c 4 w 0 0 (MQ below (va_Qi post (fun S' t => Hd w S' t.heap) (wA w)) args s 0 0 (wA w)) S 119 [(0, .ref v0)] [] := by
  refine k_aload_n B 0 rfl rfl dX11_factOfVan_119 ?_
  refine k_getP (f := 773) (r := gP S 773 v0) B 12 5 rfl (by decide) rfl (by decide) rfl rfl (fun w h => in_of (uw_12 w h)) (in_of qfRX11_37) dX11_factOfVan_120 h1 rfl ?_
  rw [h2]; change K _ _ _ _ _ _ _ _ _ _ _ _ _ _ _ _ _ _ (.ref x1 :: _)
  refine k_getP (f := 513) (r := gP S 513 x1) B 8 1 rfl (by decide) rfl (by decide) rfl rfl (fun w h => in_of (uw_8 w h)) (in_of qfRX11_371) dX11_factOfVan_123 h3 rfl ?_
  rw [h4]; change K _ _ _ _ _ _ _ _ _ _ _ _ _ _ _ _ _ _ (.ref x2 :: _)
  refine k_getI (f := 645) (v := gI S 645 x2) B 10 5 rfl (by decide) rfl (by decide) rfl rfl (fun w h => in_of (uw_10 w h)) (in_of qfRX11_386) dX11_factOfVan_126 h5 rfl ?_
  exact ret_I B rfl dX11_factOfVan_129 (hq)
theorem bX11_factOfVan_130 (B : Bd p s m args meth c cX11_factOfVan 4 (wsOf yX11_factOfVan cX11_factOfVan 4 (some .int)) RX11 w (some .int) "factOfVan") {v1 : Nat} {x1 : Nat} {post : Int32 → St → Prop} {Q : State → Prop} (h1 : kd S v1 = 12) (h2 : gP S 708 v1 = some x1) (hc : ConI l yX6_greatestLoad (wsOf yX6_greatestLoad cX6_greatestLoad 4 (some .int)) rX6_greatestLoad w S [.ref x1] post) (h3 : kd S x1 = 8) (kk : ∀ (r : Int32) (S' : St), post r S' → K p l e rX11_factOfVan s m args below meth c 4 w 0 0 Q S' 137 [] [.int r]) : K p l e rX11_factOfVan s m args below meth c 4 w 0 0 Q S 130 [(1, .ref v1)] [] := by
  refine k_aload_n B 0 rfl rfl dX11_factOfVan_130 ?_
  refine k_getP (f := 708) (r := gP S 708 v1) B 11 4 rfl (by decide) rfl (by decide) rfl rfl (fun w h => in_of (uw_11 w h)) (in_of qfRX11_187) dX11_factOfVan_131 h1 rfl ?_
  rw [h2]; change K _ _ _ _ _ _ _ _ _ _ _ _ _ _ _ _ _ _ (.ref x1 :: _)
  refine callV_I (st := []) B [] (hc) (cwV 0 B.1.2.2.2.2 (gV qlRX11_389 qiX6_greatestLoad qeX6_greatestLoad qzRX6 qcX6_greatestLoad) rfl rfl rfl (by decide +kernel) ⟨Nat.le_of_ble_eq_true rfl, Nat.le_of_ble_eq_true rfl⟩) rfl rfl (by decide) h3 (Nat.le_of_ble_eq_true rfl) rfl dX11_factOfVan_134 ⟨Nat.le_of_ble_eq_true rfl, Nat.le_of_ble_eq_true rfl⟩ (fun r S' hp => ?_)
  refine k_sub [] rfl ?_
  exact kk r S' hp
theorem bX11_factOfVan_137 (B : Bd p s m args meth c cX11_factOfVan 4 (wsOf yX11_factOfVan cX11_factOfVan 4 (some .int)) RX11 w (some .int) "factOfVan") {t0 : Int32} {post : Int32 → St → Prop}  (hq : post t0 S) : K p l e rX11_factOfVan s m args below meth c 4 w 0 0 (MQ below (va_Qi post (fun S' t => Hd w S' t.heap) (wA w)) args s 0 0 (wA w)) S 137 [] [.int t0] := by
  exact ret_I B rfl dX11_factOfVan_137 (hq)
theorem bX11_counted_0 (B : Bd p s m args meth c cX11_counted 2 (wsOf yX11_counted cX11_counted 2 (some .int)) RX11 w (some .int) "counted") {v0 : Nat} {v1 : Int32} {Q : State → Prop}  (kd : v1.toInt < 0 ∨ 10 < v1.toInt → K p l e rX11_counted s m args below meth c 2 w 0 0 Q S 132 [(0, .ref v0)] []) (k0 : v1 = 0 → K p l e rX11_counted s m args below meth c 2 w 0 0 Q S 60 [(0, .ref v0)] []) (k1 : v1 = 1 → K p l e rX11_counted s m args below meth c 2 w 0 0 Q S 65 [(0, .ref v0)] []) (k2 : v1 = 2 → K p l e rX11_counted s m args below meth c 2 w 0 0 Q S 73 [(0, .ref v0)] []) (k3 : v1 = 3 → K p l e rX11_counted s m args below meth c 2 w 0 0 Q S 81 [(0, .ref v0)] []) (k4 : v1 = 4 → K p l e rX11_counted s m args below meth c 2 w 0 0 Q S 89 [(0, .ref v0)] []) (k5 : v1 = 5 → K p l e rX11_counted s m args below meth c 2 w 0 0 Q S 97 [(0, .ref v0)] []) (k6 : v1 = 6 → K p l e rX11_counted s m args below meth c 2 w 0 0 Q S 103 [(0, .ref v0)] []) (k7 : v1 = 7 → K p l e rX11_counted s m args below meth c 2 w 0 0 Q S 108 [(0, .ref v0)] []) (k8 : v1 = 8 → K p l e rX11_counted s m args below meth c 2 w 0 0 Q S 114 [(0, .ref v0)] []) (k9 : v1 = 9 → K p l e rX11_counted s m args below meth c 2 w 0 0 Q S 120 [(0, .ref v0)] []) (k10 : v1 = 10 → K p l e rX11_counted s m args below meth c 2 w 0 0 Q S 126 [(0, .ref v0)] []) : K p l e rX11_counted s m args below meth c 2 w 0 0 Q S 0 [(0, .ref v0), (1, .int v1)] [] := by
  refine k_iload_n B 1 rfl rfl dX11_counted_0 ?_
  rcases (show v1.toInt < 0 ∨ 10 < v1.toInt ∨ v1.toInt = 0 ∨ v1.toInt = 1 ∨ v1.toInt = 2 ∨ v1.toInt = 3 ∨ v1.toInt = 4 ∨ v1.toInt = 5 ∨ v1.toInt = 6 ∨ v1.toInt = 7 ∨ v1.toInt = 8 ∨ v1.toInt = 9 ∨ v1.toInt = 10 by omega) with c | c | c | c | c | c | c | c | c | c | c | c | c
  · refine k_tabOut (tgt := 132) B dX11_counted_1 (Or.inl c) (by decide) ?_
    refine k_sub [0] rfl ?_
    exact kd (Or.inl c)
  · refine k_tabOut (tgt := 132) B dX11_counted_1 (Or.inr c) (by decide) ?_
    refine k_sub [0] rfl ?_
    exact kd (Or.inr c)
  · refine k_tabIn (off := 59) (tgt := 60) B dX11_counted_1 (by omega) (by omega) (by rw [c]; rfl) (by decide) ?_
    refine k_sub [0] rfl ?_
    exact k0 (Int32.toInt_inj.mp (c.trans (by decide)))
  · refine k_tabIn (off := 64) (tgt := 65) B dX11_counted_1 (by omega) (by omega) (by rw [c]; rfl) (by decide) ?_
    refine k_sub [0] rfl ?_
    exact k1 (Int32.toInt_inj.mp (c.trans (by decide)))
  · refine k_tabIn (off := 72) (tgt := 73) B dX11_counted_1 (by omega) (by omega) (by rw [c]; rfl) (by decide) ?_
    refine k_sub [0] rfl ?_
    exact k2 (Int32.toInt_inj.mp (c.trans (by decide)))
  · refine k_tabIn (off := 80) (tgt := 81) B dX11_counted_1 (by omega) (by omega) (by rw [c]; rfl) (by decide) ?_
    refine k_sub [0] rfl ?_
    exact k3 (Int32.toInt_inj.mp (c.trans (by decide)))
  · refine k_tabIn (off := 88) (tgt := 89) B dX11_counted_1 (by omega) (by omega) (by rw [c]; rfl) (by decide) ?_
    refine k_sub [0] rfl ?_
    exact k4 (Int32.toInt_inj.mp (c.trans (by decide)))
  · refine k_tabIn (off := 96) (tgt := 97) B dX11_counted_1 (by omega) (by omega) (by rw [c]; rfl) (by decide) ?_
    refine k_sub [0] rfl ?_
    exact k5 (Int32.toInt_inj.mp (c.trans (by decide)))
  · refine k_tabIn (off := 102) (tgt := 103) B dX11_counted_1 (by omega) (by omega) (by rw [c]; rfl) (by decide) ?_
    refine k_sub [0] rfl ?_
    exact k6 (Int32.toInt_inj.mp (c.trans (by decide)))
  · refine k_tabIn (off := 107) (tgt := 108) B dX11_counted_1 (by omega) (by omega) (by rw [c]; rfl) (by decide) ?_
    refine k_sub [0] rfl ?_
    exact k7 (Int32.toInt_inj.mp (c.trans (by decide)))
  · refine k_tabIn (off := 113) (tgt := 114) B dX11_counted_1 (by omega) (by omega) (by rw [c]; rfl) (by decide) ?_
    refine k_sub [0] rfl ?_
    exact k8 (Int32.toInt_inj.mp (c.trans (by decide)))
  · refine k_tabIn (off := 119) (tgt := 120) B dX11_counted_1 (by omega) (by omega) (by rw [c]; rfl) (by decide) ?_
    refine k_sub [0] rfl ?_
    exact k9 (Int32.toInt_inj.mp (c.trans (by decide)))
  · refine k_tabIn (off := 125) (tgt := 126) B dX11_counted_1 (by omega) (by omega) (by rw [c]; rfl) (by decide) ?_
    refine k_sub [0] rfl ?_
    exact k10 (Int32.toInt_inj.mp (c.trans (by decide)))
theorem bX11_counted_60 (B : Bd p s m args meth c cX11_counted 2 (wsOf yX11_counted cX11_counted 2 (some .int)) RX11 w (some .int) "counted") {v0 : Nat} {post : Int32 → St → Prop} (h1 : kd S v0 = 13) (hq : post (gI S 778 v0) S) : K p l e rX11_counted s m args below meth c 2 w 0 0 (MQ below (va_Qi post (fun S' t => Hd w S' t.heap) (wA w)) args s 0 0 (wA w)) S 60 [(0, .ref v0)] [] := by
  refine k_aload_n B 0 rfl rfl dX11_counted_60 ?_
  refine k_getI (f := 778) (v := gI S 778 v0) B 12 10 rfl (by decide) rfl (by decide) rfl rfl (fun w h => in_of (uw_12 w h)) (in_of qfRX11_67) dX11_counted_61 h1 rfl ?_
  exact ret_I B rfl dX11_counted_64 (hq)
theorem bX11_counted_65 (B : Bd p s m args meth c cX11_counted 2 (wsOf yX11_counted cX11_counted 2 (some .int)) RX11 w (some .int) "counted") {v0 : Nat} {x1 : Nat} {post : Int32 → St → Prop} {Q : State → Prop} (h1 : kd S v0 = 13) (h2 : gP S 769 v0 = some x1) (hc : ConI l yJx4a65c_size_8abf5 (wsOf yJx4a65c_size_8abf5 cJx4a65c_size_8abf5 1 (some .int)) rJx4a65c_size_8abf5 w S [.ref x1] post) (h3 : kd S x1 = 1) (kk : ∀ (r : Int32) (S' : St), post r S' → K p l e rX11_counted s m args below meth c 2 w 0 0 Q S' 72 [] [.int r]) : K p l e rX11_counted s m args below meth c 2 w 0 0 Q S 65 [(0, .ref v0)] [] := by
  refine k_aload_n B 0 rfl rfl dX11_counted_65 ?_
  refine k_getP (f := 769) (r := gP S 769 v0) B 12 1 rfl (by decide) rfl (by decide) rfl rfl (fun w h => in_of (uw_12 w h)) (in_of qfRX11_19) dX11_counted_66 h1 rfl ?_
  rw [h2]; change K _ _ _ _ _ _ _ _ _ _ _ _ _ _ _ _ _ _ (.ref x1 :: _)
  refine callV_I (st := []) B [] (hc) (cwV 0 B.1.2.2.2.2 (gV qlRX11_101 qiJx4a65c_size_8abf5 qeJx4a65c_size_8abf5 qzRJx4a65c qcJx4a65c_size_8abf5) rfl rfl rfl (by decide +kernel) ⟨Nat.le_of_ble_eq_true rfl, Nat.le_of_ble_eq_true rfl⟩) rfl rfl (by decide) h3 (Nat.le_of_ble_eq_true rfl) rfl dX11_counted_69 ⟨Nat.le_of_ble_eq_true rfl, Nat.le_of_ble_eq_true rfl⟩ (fun r S' hp => ?_)
  refine k_sub [] rfl ?_
  exact kk r S' hp
theorem bX11_counted_72 (B : Bd p s m args meth c cX11_counted 2 (wsOf yX11_counted cX11_counted 2 (some .int)) RX11 w (some .int) "counted") {t0 : Int32} {post : Int32 → St → Prop}  (hq : post t0 S) : K p l e rX11_counted s m args below meth c 2 w 0 0 (MQ below (va_Qi post (fun S' t => Hd w S' t.heap) (wA w)) args s 0 0 (wA w)) S 72 [] [.int t0] := by
  exact ret_I B rfl dX11_counted_72 (hq)
theorem bX11_counted_73 (B : Bd p s m args meth c cX11_counted 2 (wsOf yX11_counted cX11_counted 2 (some .int)) RX11 w (some .int) "counted") {v0 : Nat} {x1 : Nat} {post : Int32 → St → Prop} {Q : State → Prop} (h1 : kd S v0 = 13) (h2 : gP S 770 v0 = some x1) (hc : ConI l yJx4a65c_size_8abf5 (wsOf yJx4a65c_size_8abf5 cJx4a65c_size_8abf5 1 (some .int)) rJx4a65c_size_8abf5 w S [.ref x1] post) (h3 : kd S x1 = 1) (kk : ∀ (r : Int32) (S' : St), post r S' → K p l e rX11_counted s m args below meth c 2 w 0 0 Q S' 80 [] [.int r]) : K p l e rX11_counted s m args below meth c 2 w 0 0 Q S 73 [(0, .ref v0)] [] := by
  refine k_aload_n B 0 rfl rfl dX11_counted_73 ?_
  refine k_getP (f := 770) (r := gP S 770 v0) B 12 2 rfl (by decide) rfl (by decide) rfl rfl (fun w h => in_of (uw_12 w h)) (in_of qfRX11_23) dX11_counted_74 h1 rfl ?_
  rw [h2]; change K _ _ _ _ _ _ _ _ _ _ _ _ _ _ _ _ _ _ (.ref x1 :: _)
  refine callV_I (st := []) B [] (hc) (cwV 0 B.1.2.2.2.2 (gV qlRX11_101 qiJx4a65c_size_8abf5 qeJx4a65c_size_8abf5 qzRJx4a65c qcJx4a65c_size_8abf5) rfl rfl rfl (by decide +kernel) ⟨Nat.le_of_ble_eq_true rfl, Nat.le_of_ble_eq_true rfl⟩) rfl rfl (by decide) h3 (Nat.le_of_ble_eq_true rfl) rfl dX11_counted_77 ⟨Nat.le_of_ble_eq_true rfl, Nat.le_of_ble_eq_true rfl⟩ (fun r S' hp => ?_)
  refine k_sub [] rfl ?_
  exact kk r S' hp
theorem bX11_counted_80 (B : Bd p s m args meth c cX11_counted 2 (wsOf yX11_counted cX11_counted 2 (some .int)) RX11 w (some .int) "counted") {t0 : Int32} {post : Int32 → St → Prop}  (hq : post t0 S) : K p l e rX11_counted s m args below meth c 2 w 0 0 (MQ below (va_Qi post (fun S' t => Hd w S' t.heap) (wA w)) args s 0 0 (wA w)) S 80 [] [.int t0] := by
  exact ret_I B rfl dX11_counted_80 (hq)
theorem bX11_counted_81 (B : Bd p s m args meth c cX11_counted 2 (wsOf yX11_counted cX11_counted 2 (some .int)) RX11 w (some .int) "counted") {v0 : Nat} {x1 : Nat} {post : Int32 → St → Prop} {Q : State → Prop} (h1 : kd S v0 = 13) (h2 : gP S 771 v0 = some x1) (hc : ConI l yJx4a65c_size_8abf5 (wsOf yJx4a65c_size_8abf5 cJx4a65c_size_8abf5 1 (some .int)) rJx4a65c_size_8abf5 w S [.ref x1] post) (h3 : kd S x1 = 1) (kk : ∀ (r : Int32) (S' : St), post r S' → K p l e rX11_counted s m args below meth c 2 w 0 0 Q S' 88 [] [.int r]) : K p l e rX11_counted s m args below meth c 2 w 0 0 Q S 81 [(0, .ref v0)] [] := by
  refine k_aload_n B 0 rfl rfl dX11_counted_81 ?_
  refine k_getP (f := 771) (r := gP S 771 v0) B 12 3 rfl (by decide) rfl (by decide) rfl rfl (fun w h => in_of (uw_12 w h)) (in_of qfRX11_26) dX11_counted_82 h1 rfl ?_
  rw [h2]; change K _ _ _ _ _ _ _ _ _ _ _ _ _ _ _ _ _ _ (.ref x1 :: _)
  refine callV_I (st := []) B [] (hc) (cwV 0 B.1.2.2.2.2 (gV qlRX11_101 qiJx4a65c_size_8abf5 qeJx4a65c_size_8abf5 qzRJx4a65c qcJx4a65c_size_8abf5) rfl rfl rfl (by decide +kernel) ⟨Nat.le_of_ble_eq_true rfl, Nat.le_of_ble_eq_true rfl⟩) rfl rfl (by decide) h3 (Nat.le_of_ble_eq_true rfl) rfl dX11_counted_85 ⟨Nat.le_of_ble_eq_true rfl, Nat.le_of_ble_eq_true rfl⟩ (fun r S' hp => ?_)
  refine k_sub [] rfl ?_
  exact kk r S' hp
theorem bX11_counted_88 (B : Bd p s m args meth c cX11_counted 2 (wsOf yX11_counted cX11_counted 2 (some .int)) RX11 w (some .int) "counted") {t0 : Int32} {post : Int32 → St → Prop}  (hq : post t0 S) : K p l e rX11_counted s m args below meth c 2 w 0 0 (MQ below (va_Qi post (fun S' t => Hd w S' t.heap) (wA w)) args s 0 0 (wA w)) S 88 [] [.int t0] := by
  exact ret_I B rfl dX11_counted_88 (hq)
theorem bX11_counted_89 (B : Bd p s m args meth c cX11_counted 2 (wsOf yX11_counted cX11_counted 2 (some .int)) RX11 w (some .int) "counted") {v0 : Nat} {x1 : Nat} {post : Int32 → St → Prop} {Q : State → Prop} (h1 : kd S v0 = 13) (h2 : gP S 772 v0 = some x1) (hc : ConI l yJx4a65c_size_8abf5 (wsOf yJx4a65c_size_8abf5 cJx4a65c_size_8abf5 1 (some .int)) rJx4a65c_size_8abf5 w S [.ref x1] post) (h3 : kd S x1 = 1) (kk : ∀ (r : Int32) (S' : St), post r S' → K p l e rX11_counted s m args below meth c 2 w 0 0 Q S' 96 [] [.int r]) : K p l e rX11_counted s m args below meth c 2 w 0 0 Q S 89 [(0, .ref v0)] [] := by
  refine k_aload_n B 0 rfl rfl dX11_counted_89 ?_
  refine k_getP (f := 772) (r := gP S 772 v0) B 12 4 rfl (by decide) rfl (by decide) rfl rfl (fun w h => in_of (uw_12 w h)) (in_of qfRX11_29) dX11_counted_90 h1 rfl ?_
  rw [h2]; change K _ _ _ _ _ _ _ _ _ _ _ _ _ _ _ _ _ _ (.ref x1 :: _)
  refine callV_I (st := []) B [] (hc) (cwV 0 B.1.2.2.2.2 (gV qlRX11_101 qiJx4a65c_size_8abf5 qeJx4a65c_size_8abf5 qzRJx4a65c qcJx4a65c_size_8abf5) rfl rfl rfl (by decide +kernel) ⟨Nat.le_of_ble_eq_true rfl, Nat.le_of_ble_eq_true rfl⟩) rfl rfl (by decide) h3 (Nat.le_of_ble_eq_true rfl) rfl dX11_counted_93 ⟨Nat.le_of_ble_eq_true rfl, Nat.le_of_ble_eq_true rfl⟩ (fun r S' hp => ?_)
  refine k_sub [] rfl ?_
  exact kk r S' hp
theorem bX11_counted_96 (B : Bd p s m args meth c cX11_counted 2 (wsOf yX11_counted cX11_counted 2 (some .int)) RX11 w (some .int) "counted") {t0 : Int32} {post : Int32 → St → Prop}  (hq : post t0 S) : K p l e rX11_counted s m args below meth c 2 w 0 0 (MQ below (va_Qi post (fun S' t => Hd w S' t.heap) (wA w)) args s 0 0 (wA w)) S 96 [] [.int t0] := by
  exact ret_I B rfl dX11_counted_96 (hq)
theorem bX11_counted_97 (B : Bd p s m args meth c cX11_counted 2 (wsOf yX11_counted cX11_counted 2 (some .int)) RX11 w (some .int) "counted") {v0 : Nat} {post : Int32 → St → Prop} {Q : State → Prop} (hc : ConI l yX11_inState (wsOf yX11_inState cX11_inState 4 (some .int)) rX11_inState w S [.ref v0, .int 0] post) (h1 : kd S v0 = 13) (kk : ∀ (r : Int32) (S' : St), post r S' → K p l e rX11_counted s m args below meth c 2 w 0 0 Q S' 102 [] [.int r]) : K p l e rX11_counted s m args below meth c 2 w 0 0 Q S 97 [(0, .ref v0)] [] := by
  refine k_aload_n B 0 rfl rfl dX11_counted_97 ?_
  refine k_iconst (v := 0) B (by decide) dX11_counted_98 ?_
  refine callV_I (st := []) B [.int 0] (hc) (cwV 1 B.1.2.2.2.2 (gV qlRX11_277 qiX11_inState qeX11_inState qzRX11 qcX11_inState) rfl rfl rfl (by decide +kernel) ⟨Nat.le_of_ble_eq_true rfl, Nat.le_of_ble_eq_true rfl⟩) rfl rfl (by decide) h1 (Nat.le_of_ble_eq_true rfl) rfl dX11_counted_99 ⟨Nat.le_of_ble_eq_true rfl, Nat.le_of_ble_eq_true rfl⟩ (fun r S' hp => ?_)
  refine k_sub [] rfl ?_
  exact kk r S' hp
theorem bX11_counted_102 (B : Bd p s m args meth c cX11_counted 2 (wsOf yX11_counted cX11_counted 2 (some .int)) RX11 w (some .int) "counted") {t0 : Int32} {post : Int32 → St → Prop}  (hq : post t0 S) : K p l e rX11_counted s m args below meth c 2 w 0 0 (MQ below (va_Qi post (fun S' t => Hd w S' t.heap) (wA w)) args s 0 0 (wA w)) S 102 [] [.int t0] := by
  exact ret_I B rfl dX11_counted_102 (hq)
theorem bX11_counted_103 (B : Bd p s m args meth c cX11_counted 2 (wsOf yX11_counted cX11_counted 2 (some .int)) RX11 w (some .int) "counted") {v0 : Nat} {post : Int32 → St → Prop} {Q : State → Prop} (hc : ConI l yX11_looseParcels (wsOf yX11_looseParcels cX11_looseParcels 3 (some .int)) rX11_looseParcels w S [.ref v0] post) (h1 : kd S v0 = 13) (kk : ∀ (r : Int32) (S' : St), post r S' → K p l e rX11_counted s m args below meth c 2 w 0 0 Q S' 107 [] [.int r]) : K p l e rX11_counted s m args below meth c 2 w 0 0 Q S 103 [(0, .ref v0)] [] := by
  refine k_aload_n B 0 rfl rfl dX11_counted_103 ?_
  refine callV_I (st := []) B [] (hc) (cwV 0 B.1.2.2.2.2 (gV qlRX11_392 qiX11_looseParcels qeX11_looseParcels qzRX11 qcX11_looseParcels) rfl rfl rfl (by decide +kernel) ⟨Nat.le_of_ble_eq_true rfl, Nat.le_of_ble_eq_true rfl⟩) rfl rfl (by decide) h1 (Nat.le_of_ble_eq_true rfl) rfl dX11_counted_104 ⟨Nat.le_of_ble_eq_true rfl, Nat.le_of_ble_eq_true rfl⟩ (fun r S' hp => ?_)
  refine k_sub [] rfl ?_
  exact kk r S' hp
theorem bX11_counted_107 (B : Bd p s m args meth c cX11_counted 2 (wsOf yX11_counted cX11_counted 2 (some .int)) RX11 w (some .int) "counted") {t0 : Int32} {post : Int32 → St → Prop}  (hq : post t0 S) : K p l e rX11_counted s m args below meth c 2 w 0 0 (MQ below (va_Qi post (fun S' t => Hd w S' t.heap) (wA w)) args s 0 0 (wA w)) S 107 [] [.int t0] := by
  exact ret_I B rfl dX11_counted_107 (hq)
theorem bX11_counted_108 (B : Bd p s m args meth c cX11_counted 2 (wsOf yX11_counted cX11_counted 2 (some .int)) RX11 w (some .int) "counted") {v0 : Nat} {post : Int32 → St → Prop} {Q : State → Prop} (hc : ConI l yX11_inState (wsOf yX11_inState cX11_inState 4 (some .int)) rX11_inState w S [.ref v0, .int 1] post) (h1 : kd S v0 = 13) (kk : ∀ (r : Int32) (S' : St), post r S' → K p l e rX11_counted s m args below meth c 2 w 0 0 Q S' 113 [] [.int r]) : K p l e rX11_counted s m args below meth c 2 w 0 0 Q S 108 [(0, .ref v0)] [] := by
  refine k_aload_n B 0 rfl rfl dX11_counted_108 ?_
  refine k_iconst (v := 1) B (by decide) dX11_counted_109 ?_
  refine callV_I (st := []) B [.int 1] (hc) (cwV 1 B.1.2.2.2.2 (gV qlRX11_277 qiX11_inState qeX11_inState qzRX11 qcX11_inState) rfl rfl rfl (by decide +kernel) ⟨Nat.le_of_ble_eq_true rfl, Nat.le_of_ble_eq_true rfl⟩) rfl rfl (by decide) h1 (Nat.le_of_ble_eq_true rfl) rfl dX11_counted_110 ⟨Nat.le_of_ble_eq_true rfl, Nat.le_of_ble_eq_true rfl⟩ (fun r S' hp => ?_)
  refine k_sub [] rfl ?_
  exact kk r S' hp
theorem bX11_counted_113 (B : Bd p s m args meth c cX11_counted 2 (wsOf yX11_counted cX11_counted 2 (some .int)) RX11 w (some .int) "counted") {t0 : Int32} {post : Int32 → St → Prop}  (hq : post t0 S) : K p l e rX11_counted s m args below meth c 2 w 0 0 (MQ below (va_Qi post (fun S' t => Hd w S' t.heap) (wA w)) args s 0 0 (wA w)) S 113 [] [.int t0] := by
  exact ret_I B rfl dX11_counted_113 (hq)
theorem bX11_counted_114 (B : Bd p s m args meth c cX11_counted 2 (wsOf yX11_counted cX11_counted 2 (some .int)) RX11 w (some .int) "counted") {v0 : Nat} {post : Int32 → St → Prop} {Q : State → Prop} (hc : ConI l yX11_inState (wsOf yX11_inState cX11_inState 4 (some .int)) rX11_inState w S [.ref v0, .int 2] post) (h1 : kd S v0 = 13) (kk : ∀ (r : Int32) (S' : St), post r S' → K p l e rX11_counted s m args below meth c 2 w 0 0 Q S' 119 [] [.int r]) : K p l e rX11_counted s m args below meth c 2 w 0 0 Q S 114 [(0, .ref v0)] [] := by
  refine k_aload_n B 0 rfl rfl dX11_counted_114 ?_
  refine k_iconst (v := 2) B (by decide) dX11_counted_115 ?_
  refine callV_I (st := []) B [.int 2] (hc) (cwV 1 B.1.2.2.2.2 (gV qlRX11_277 qiX11_inState qeX11_inState qzRX11 qcX11_inState) rfl rfl rfl (by decide +kernel) ⟨Nat.le_of_ble_eq_true rfl, Nat.le_of_ble_eq_true rfl⟩) rfl rfl (by decide) h1 (Nat.le_of_ble_eq_true rfl) rfl dX11_counted_116 ⟨Nat.le_of_ble_eq_true rfl, Nat.le_of_ble_eq_true rfl⟩ (fun r S' hp => ?_)
  refine k_sub [] rfl ?_
  exact kk r S' hp
theorem bX11_counted_119 (B : Bd p s m args meth c cX11_counted 2 (wsOf yX11_counted cX11_counted 2 (some .int)) RX11 w (some .int) "counted") {t0 : Int32} {post : Int32 → St → Prop}  (hq : post t0 S) : K p l e rX11_counted s m args below meth c 2 w 0 0 (MQ below (va_Qi post (fun S' t => Hd w S' t.heap) (wA w)) args s 0 0 (wA w)) S 119 [] [.int t0] := by
  exact ret_I B rfl dX11_counted_119 (hq)
theorem bX11_counted_120 (B : Bd p s m args meth c cX11_counted 2 (wsOf yX11_counted cX11_counted 2 (some .int)) RX11 w (some .int) "counted") {v0 : Nat} {post : Int32 → St → Prop} {Q : State → Prop} (hc : ConI l yX11_inState (wsOf yX11_inState cX11_inState 4 (some .int)) rX11_inState w S [.ref v0, .int 3] post) (h1 : kd S v0 = 13) (kk : ∀ (r : Int32) (S' : St), post r S' → K p l e rX11_counted s m args below meth c 2 w 0 0 Q S' 125 [] [.int r]) : K p l e rX11_counted s m args below meth c 2 w 0 0 Q S 120 [(0, .ref v0)] [] := by
  refine k_aload_n B 0 rfl rfl dX11_counted_120 ?_
  refine k_iconst (v := 3) B (by decide) dX11_counted_121 ?_
  refine callV_I (st := []) B [.int 3] (hc) (cwV 1 B.1.2.2.2.2 (gV qlRX11_277 qiX11_inState qeX11_inState qzRX11 qcX11_inState) rfl rfl rfl (by decide +kernel) ⟨Nat.le_of_ble_eq_true rfl, Nat.le_of_ble_eq_true rfl⟩) rfl rfl (by decide) h1 (Nat.le_of_ble_eq_true rfl) rfl dX11_counted_122 ⟨Nat.le_of_ble_eq_true rfl, Nat.le_of_ble_eq_true rfl⟩ (fun r S' hp => ?_)
  refine k_sub [] rfl ?_
  exact kk r S' hp
theorem bX11_counted_125 (B : Bd p s m args meth c cX11_counted 2 (wsOf yX11_counted cX11_counted 2 (some .int)) RX11 w (some .int) "counted") {t0 : Int32} {post : Int32 → St → Prop}  (hq : post t0 S) : K p l e rX11_counted s m args below meth c 2 w 0 0 (MQ below (va_Qi post (fun S' t => Hd w S' t.heap) (wA w)) args s 0 0 (wA w)) S 125 [] [.int t0] := by
  exact ret_I B rfl dX11_counted_125 (hq)
theorem bX11_counted_126 (B : Bd p s m args meth c cX11_counted 2 (wsOf yX11_counted cX11_counted 2 (some .int)) RX11 w (some .int) "counted") {v0 : Nat} {post : Int32 → St → Prop} {Q : State → Prop} (hc : ConI l yX11_inState (wsOf yX11_inState cX11_inState 4 (some .int)) rX11_inState w S [.ref v0, .int 4] post) (h1 : kd S v0 = 13) (kk : ∀ (r : Int32) (S' : St), post r S' → K p l e rX11_counted s m args below meth c 2 w 0 0 Q S' 131 [] [.int r]) : K p l e rX11_counted s m args below meth c 2 w 0 0 Q S 126 [(0, .ref v0)] [] := by
  refine k_aload_n B 0 rfl rfl dX11_counted_126 ?_
  refine k_iconst (v := 4) B (by decide) dX11_counted_127 ?_
  refine callV_I (st := []) B [.int 4] (hc) (cwV 1 B.1.2.2.2.2 (gV qlRX11_277 qiX11_inState qeX11_inState qzRX11 qcX11_inState) rfl rfl rfl (by decide +kernel) ⟨Nat.le_of_ble_eq_true rfl, Nat.le_of_ble_eq_true rfl⟩) rfl rfl (by decide) h1 (Nat.le_of_ble_eq_true rfl) rfl dX11_counted_128 ⟨Nat.le_of_ble_eq_true rfl, Nat.le_of_ble_eq_true rfl⟩ (fun r S' hp => ?_)
  refine k_sub [] rfl ?_
  exact kk r S' hp
theorem bX11_counted_131 (B : Bd p s m args meth c cX11_counted 2 (wsOf yX11_counted cX11_counted 2 (some .int)) RX11 w (some .int) "counted") {t0 : Int32} {post : Int32 → St → Prop}  (hq : post t0 S) : K p l e rX11_counted s m args below meth c 2 w 0 0 (MQ below (va_Qi post (fun S' t => Hd w S' t.heap) (wA w)) args s 0 0 (wA w)) S 131 [] [.int t0] := by
  exact ret_I B rfl dX11_counted_131 (hq)
theorem bX11_counted_132 (B : Bd p s m args meth c cX11_counted 2 (wsOf yX11_counted cX11_counted 2 (some .int)) RX11 w (some .int) "counted") {v0 : Nat} {post : Int32 → St → Prop} {Q : State → Prop} (hc : ConI l yX11_costOfAll (wsOf yX11_costOfAll cX11_costOfAll 3 (some .int)) rX11_costOfAll w S [.ref v0] post) (h1 : kd S v0 = 13) (kk : ∀ (r : Int32) (S' : St), post r S' → K p l e rX11_counted s m args below meth c 2 w 0 0 Q S' 136 [] [.int r]) : K p l e rX11_counted s m args below meth c 2 w 0 0 Q S 132 [(0, .ref v0)] [] := by
  refine k_aload_n B 0 rfl rfl dX11_counted_132 ?_
  refine callV_I (st := []) B [] (hc) (cwV 0 B.1.2.2.2.2 (gV qlRX11_395 qiX11_costOfAll qeX11_costOfAll qzRX11 qcX11_costOfAll) rfl rfl rfl (by decide +kernel) ⟨Nat.le_of_ble_eq_true rfl, Nat.le_of_ble_eq_true rfl⟩) rfl rfl (by decide) h1 (Nat.le_of_ble_eq_true rfl) rfl dX11_counted_133 ⟨Nat.le_of_ble_eq_true rfl, Nat.le_of_ble_eq_true rfl⟩ (fun r S' hp => ?_)
  refine k_sub [] rfl ?_
  exact kk r S' hp
theorem bX11_counted_136 (B : Bd p s m args meth c cX11_counted 2 (wsOf yX11_counted cX11_counted 2 (some .int)) RX11 w (some .int) "counted") {t0 : Int32} {post : Int32 → St → Prop}  (hq : post t0 S) : K p l e rX11_counted s m args below meth c 2 w 0 0 (MQ below (va_Qi post (fun S' t => Hd w S' t.heap) (wA w)) args s 0 0 (wA w)) S 136 [] [.int t0] := by
  exact ret_I B rfl dX11_counted_136 (hq)
theorem bX11_inState_0 (B : Bd p s m args meth c cX11_inState 4 (wsOf yX11_inState cX11_inState 4 (some .int)) RX11 w (some .int) "inState") {v0 : Nat} {v1 : Int32} {Q : State → Prop}  (kk : K p l e rX11_inState s m args below meth c 4 w 0 0 Q S 4 [(0, .ref v0), (1, .int v1), (2, .int 0), (3, .int 0)] []) : K p l e rX11_inState s m args below meth c 4 w 0 0 Q S 0 [(0, .ref v0), (1, .int v1)] [] := by
  refine k_iconst (v := 0) B (by decide) dX11_inState_0 ?_
  refine k_istore_n (lst' := [(2, .int 0), (0, .ref v0), (1, .int v1)]) B rfl (by decide) rfl dX11_inState_1 ?_
  refine k_iconst (v := 0) B (by decide) dX11_inState_2 ?_
  refine k_istore_n (lst' := [(3, .int 0), (2, .int 0), (0, .ref v0), (1, .int v1)]) B rfl (by decide) rfl dX11_inState_3 ?_
  refine k_sub [2, 3, 1, 0] rfl ?_
  exact kk
theorem bX11_inState_4 (B : Bd p s m args meth c cX11_inState 4 (wsOf yX11_inState cX11_inState 4 (some .int)) RX11 w (some .int) "inState") {v0 : Nat} {v1 : Int32} {v2 : Int32} {v3 : Int32} {x1 : Nat} {post : Int32 → St → Prop} {Q : State → Prop} (h1 : kd S v0 = 13) (h2 : gP S 772 v0 = some x1) (hc : ConI l yJx4a65c_size_8abf5 (wsOf yJx4a65c_size_8abf5 cJx4a65c_size_8abf5 1 (some .int)) rJx4a65c_size_8abf5 w S [.ref x1] post) (h3 : kd S x1 = 1) (kk : ∀ (r : Int32) (S' : St), post r S' → K p l e rX11_inState s m args below meth c 4 w 0 0 Q S' 12 [(0, .ref v0), (1, .int v1), (2, .int v2), (3, .int v3)] [.int r, .int v3]) : K p l e rX11_inState s m args below meth c 4 w 0 0 Q S 4 [(0, .ref v0), (1, .int v1), (2, .int v2), (3, .int v3)] [] := by
  refine k_iload_n B 3 rfl rfl dX11_inState_4 ?_
  refine k_aload_n B 0 rfl rfl dX11_inState_5 ?_
  refine k_getP (f := 772) (r := gP S 772 v0) B 12 4 rfl (by decide) rfl (by decide) rfl rfl (fun w h => in_of (uw_12 w h)) (in_of qfRX11_29) dX11_inState_6 h1 rfl ?_
  rw [h2]; change K _ _ _ _ _ _ _ _ _ _ _ _ _ _ _ _ _ _ (.ref x1 :: _)
  refine callV_I (st := [.int v3]) B [] (hc) (cwV 0 B.1.2.2.2.2 (gV qlRX11_101 qiJx4a65c_size_8abf5 qeJx4a65c_size_8abf5 qzRJx4a65c qcJx4a65c_size_8abf5) rfl rfl rfl (by decide +kernel) ⟨Nat.le_of_ble_eq_true rfl, Nat.le_of_ble_eq_true rfl⟩) rfl rfl (by decide) h3 (Nat.le_of_ble_eq_true rfl) rfl dX11_inState_9 ⟨Nat.le_of_ble_eq_true rfl, Nat.le_of_ble_eq_true rfl⟩ (fun r S' hp => ?_)
  exact kk r S' hp
theorem bX11_inState_12 (B : Bd p s m args meth c cX11_inState 4 (wsOf yX11_inState cX11_inState 4 (some .int)) RX11 w (some .int) "inState") {v0 : Nat} {v1 : Int32} {v2 : Int32} {v3 : Int32} {t0 : Int32} {t1 : Int32} {Q : State → Prop}  (kt : t1 ≤ t0 → K p l e rX11_inState s m args below meth c 4 w 0 0 Q S 42 [(2, .int v2)] []) (kf : ¬ t1 ≤ t0 → K p l e rX11_inState s m args below meth c 4 w 0 0 Q S 15 [(0, .ref v0), (1, .int v1), (2, .int v2), (3, .int v3)] []) : K p l e rX11_inState s m args below meth c 4 w 0 0 Q S 12 [(0, .ref v0), (1, .int v1), (2, .int v2), (3, .int v3)] [.int t1, .int t0] := by
  refine k_icmp_ge (tgt := 42) B dX11_inState_12 (by decide) (fun c => ?_) (fun c => ?_)
  · refine k_sub [2] rfl ?_
    exact kt c
  · exact kf c
theorem bX11_inState_15 (B : Bd p s m args meth c cX11_inState 4 (wsOf yX11_inState cX11_inState 4 (some .int)) RX11 w (some .int) "inState") {v0 : Nat} {v1 : Int32} {v2 : Int32} {v3 : Int32} {x1 : Nat} {post : Nat → St → Prop} {Q : State → Prop} (h1 : kd S v0 = 13) (h2 : gP S 772 v0 = some x1) (hc : ConR l yJx4a65c_get_915e3 (wsOf yJx4a65c_get_915e3 cJx4a65c_get_915e3 2 (some (.object "java/lang/Object"))) rJx4a65c_get_915e3 w S [.ref x1, .int v3] post) (h3 : kd S x1 = 1) (kk : ∀ (r : Nat) (S' : St), post r S' → K p l e rX11_inState s m args below meth c 4 w 0 0 Q S' 23 [(0, .ref v0), (1, .int v1), (2, .int v2), (3, .int v3)] [.ref r]) : K p l e rX11_inState s m args below meth c 4 w 0 0 Q S 15 [(0, .ref v0), (1, .int v1), (2, .int v2), (3, .int v3)] [] := by
  refine k_aload_n B 0 rfl rfl dX11_inState_15 ?_
  refine k_getP (f := 772) (r := gP S 772 v0) B 12 4 rfl (by decide) rfl (by decide) rfl rfl (fun w h => in_of (uw_12 w h)) (in_of qfRX11_29) dX11_inState_16 h1 rfl ?_
  rw [h2]; change K _ _ _ _ _ _ _ _ _ _ _ _ _ _ _ _ _ _ (.ref x1 :: _)
  refine k_iload_n B 3 rfl rfl dX11_inState_19 ?_
  refine callV_R (st := []) B [.int v3] (hc) (cwV 1 B.1.2.2.2.2 (gV qlRX11_124 qiJx4a65c_get_915e3 qeJx4a65c_get_915e3 qzRJx4a65c qcJx4a65c_get_915e3) rfl rfl rfl (by decide +kernel) ⟨Nat.le_of_ble_eq_true rfl, Nat.le_of_ble_eq_true rfl⟩) rfl rfl (by decide) h3 (Nat.le_of_ble_eq_true rfl) rfl dX11_inState_20 ⟨Nat.le_of_ble_eq_true rfl, Nat.le_of_ble_eq_true rfl⟩ (fun r S' hp => ?_)
  exact kk r S' hp
theorem bX11_inState_23 (B : Bd p s m args meth c cX11_inState 4 (wsOf yX11_inState cX11_inState 4 (some .int)) RX11 w (some .int) "inState") {v0 : Nat} {v1 : Int32} {v2 : Int32} {v3 : Int32} {t0 : Nat} {Q : State → Prop} (h1 : kd S t0 = 5) (kt : ¬ (gI S 265 t0) = v1 → K p l e rX11_inState s m args below meth c 4 w 0 0 Q S 36 [(0, .ref v0), (1, .int v1), (2, .int v2), (3, .int v3)] []) (kf : (gI S 265 t0) = v1 → K p l e rX11_inState s m args below meth c 4 w 0 0 Q S 33 [(0, .ref v0), (1, .int v1), (2, .int v2), (3, .int v3)] []) : K p l e rX11_inState s m args below meth c 4 w 0 0 Q S 23 [(0, .ref v0), (1, .int v1), (2, .int v2), (3, .int v3)] [.ref t0] := by
  refine k_cast B 4 rfl (by decide) (in_of qkRX11_144) dX11_inState_23 h1 ?_
  refine k_getI (f := 265) (v := gI S 265 t0) B 4 9 rfl (by decide) rfl (by decide) rfl rfl (fun w h => in_of (uw_4 w h)) (in_of qfRX11_358) dX11_inState_26 h1 rfl ?_
  refine k_iload_n B 1 rfl rfl dX11_inState_29 ?_
  refine k_icmp_ne (tgt := 36) B dX11_inState_30 (by decide) (fun c => ?_) (fun c => ?_)
  · exact kt c
  · exact kf c
theorem bX11_inState_33 (B : Bd p s m args meth c cX11_inState 4 (wsOf yX11_inState cX11_inState 4 (some .int)) RX11 w (some .int) "inState") {v0 : Nat} {v1 : Int32} {v2 : Int32} {v3 : Int32} {Q : State → Prop}  (kk : K p l e rX11_inState s m args below meth c 4 w 0 0 Q S 36 [(0, .ref v0), (1, .int v1), (2, .int (v2 + 1)), (3, .int v3)] []) : K p l e rX11_inState s m args below meth c 4 w 0 0 Q S 33 [(0, .ref v0), (1, .int v1), (2, .int v2), (3, .int v3)] [] := by
  refine k_iinc (v := v2 + 1) (lst' := [(2, .int (v2 + 1)), (0, .ref v0), (1, .int v1), (3, .int v3)]) B 2 rfl rfl (by decide) rfl dX11_inState_33 ?_
  refine k_sub [1, 2, 0, 3] rfl ?_
  exact kk
theorem bX11_inState_36 (B : Bd p s m args meth c cX11_inState 4 (wsOf yX11_inState cX11_inState 4 (some .int)) RX11 w (some .int) "inState") {v0 : Nat} {v1 : Int32} {v2 : Int32} {v3 : Int32} {Q : State → Prop}  (kk : K p l e rX11_inState s m args below meth c 4 w 0 0 Q S 4 [(0, .ref v0), (1, .int v1), (2, .int v2), (3, .int (v3 + 1))] []) : K p l e rX11_inState s m args below meth c 4 w 0 0 Q S 36 [(0, .ref v0), (1, .int v1), (2, .int v2), (3, .int v3)] [] := by
  refine k_iinc (v := v3 + 1) (lst' := [(3, .int (v3 + 1)), (0, .ref v0), (1, .int v1), (2, .int v2)]) B 3 rfl rfl (by decide) rfl dX11_inState_36 ?_
  refine k_goto (tgt := 4) B dX11_inState_39 (by decide) ?_
  refine k_sub [1, 2, 3, 0] rfl ?_
  exact kk
theorem bX11_inState_42 (B : Bd p s m args meth c cX11_inState 4 (wsOf yX11_inState cX11_inState 4 (some .int)) RX11 w (some .int) "inState") {v2 : Int32} {post : Int32 → St → Prop}  (hq : post v2 S) : K p l e rX11_inState s m args below meth c 4 w 0 0 (MQ below (va_Qi post (fun S' t => Hd w S' t.heap) (wA w)) args s 0 0 (wA w)) S 42 [(2, .int v2)] [] := by
  refine k_iload_n B 0 rfl rfl dX11_inState_42 ?_
  exact ret_I B rfl dX11_inState_43 (hq)
theorem bX11_lyingAt_0 (B : Bd p s m args meth c cX11_lyingAt 6 (wsOf yX11_lyingAt cX11_lyingAt 6 (some .int)) RX11 w (some .int) "lyingAt") {v0 : Nat} {v1 : Int32} {v2 : Int32} {Q : State → Prop}  (kk : K p l e rX11_lyingAt s m args below meth c 6 w 0 0 Q S 5 [(0, .ref v0), (1, .int v1), (2, .int v2), (3, .int 0), (4, .int 0)] []) : K p l e rX11_lyingAt s m args below meth c 6 w 0 0 Q S 0 [(0, .ref v0), (1, .int v1), (2, .int v2)] [] := by
  refine k_iconst (v := 0) B (by decide) dX11_lyingAt_0 ?_
  refine k_istore_n (lst' := [(3, .int 0), (0, .ref v0), (1, .int v1), (2, .int v2)]) B rfl (by decide) rfl dX11_lyingAt_1 ?_
  refine k_iconst (v := 0) B (by decide) dX11_lyingAt_2 ?_
  refine k_istore (lst' := [(4, .int 0), (3, .int 0), (0, .ref v0), (1, .int v1), (2, .int v2)]) B (by decide) rfl dX11_lyingAt_3 ?_
  refine k_sub [2, 3, 4, 1, 0] rfl ?_
  exact kk
theorem bX11_lyingAt_5 (B : Bd p s m args meth c cX11_lyingAt 6 (wsOf yX11_lyingAt cX11_lyingAt 6 (some .int)) RX11 w (some .int) "lyingAt") {v0 : Nat} {v1 : Int32} {v2 : Int32} {v3 : Int32} {v4 : Int32} {x1 : Nat} {post : Int32 → St → Prop} {Q : State → Prop} (h1 : kd S v0 = 13) (h2 : gP S 772 v0 = some x1) (hc : ConI l yJx4a65c_size_8abf5 (wsOf yJx4a65c_size_8abf5 cJx4a65c_size_8abf5 1 (some .int)) rJx4a65c_size_8abf5 w S [.ref x1] post) (h3 : kd S x1 = 1) (kk : ∀ (r : Int32) (S' : St), post r S' → K p l e rX11_lyingAt s m args below meth c 6 w 0 0 Q S' 14 [(0, .ref v0), (1, .int v1), (2, .int v2), (3, .int v3), (4, .int v4)] [.int r, .int v4]) : K p l e rX11_lyingAt s m args below meth c 6 w 0 0 Q S 5 [(0, .ref v0), (1, .int v1), (2, .int v2), (3, .int v3), (4, .int v4)] [] := by
  refine k_iload B 4 rfl dX11_lyingAt_5 ?_
  refine k_aload_n B 0 rfl rfl dX11_lyingAt_7 ?_
  refine k_getP (f := 772) (r := gP S 772 v0) B 12 4 rfl (by decide) rfl (by decide) rfl rfl (fun w h => in_of (uw_12 w h)) (in_of qfRX11_29) dX11_lyingAt_8 h1 rfl ?_
  rw [h2]; change K _ _ _ _ _ _ _ _ _ _ _ _ _ _ _ _ _ _ (.ref x1 :: _)
  refine callV_I (st := [.int v4]) B [] (hc) (cwV 0 B.1.2.2.2.2 (gV qlRX11_101 qiJx4a65c_size_8abf5 qeJx4a65c_size_8abf5 qzRJx4a65c qcJx4a65c_size_8abf5) rfl rfl rfl (by decide +kernel) ⟨Nat.le_of_ble_eq_true rfl, Nat.le_of_ble_eq_true rfl⟩) rfl rfl (by decide) h3 (Nat.le_of_ble_eq_true rfl) rfl dX11_lyingAt_11 ⟨Nat.le_of_ble_eq_true rfl, Nat.le_of_ble_eq_true rfl⟩ (fun r S' hp => ?_)
  exact kk r S' hp
theorem bX11_lyingAt_14 (B : Bd p s m args meth c cX11_lyingAt 6 (wsOf yX11_lyingAt cX11_lyingAt 6 (some .int)) RX11 w (some .int) "lyingAt") {v0 : Nat} {v1 : Int32} {v2 : Int32} {v3 : Int32} {v4 : Int32} {t0 : Int32} {t1 : Int32} {Q : State → Prop}  (kt : t1 ≤ t0 → K p l e rX11_lyingAt s m args below meth c 6 w 0 0 Q S 58 [(3, .int v3)] []) (kf : ¬ t1 ≤ t0 → K p l e rX11_lyingAt s m args below meth c 6 w 0 0 Q S 17 [(0, .ref v0), (1, .int v1), (2, .int v2), (3, .int v3), (4, .int v4)] []) : K p l e rX11_lyingAt s m args below meth c 6 w 0 0 Q S 14 [(0, .ref v0), (1, .int v1), (2, .int v2), (3, .int v3), (4, .int v4)] [.int t1, .int t0] := by
  refine k_icmp_ge (tgt := 58) B dX11_lyingAt_14 (by decide) (fun c => ?_) (fun c => ?_)
  · refine k_sub [3] rfl ?_
    exact kt c
  · exact kf c
theorem bX11_lyingAt_17 (B : Bd p s m args meth c cX11_lyingAt 6 (wsOf yX11_lyingAt cX11_lyingAt 6 (some .int)) RX11 w (some .int) "lyingAt") {v0 : Nat} {v1 : Int32} {v2 : Int32} {v3 : Int32} {v4 : Int32} {x1 : Nat} {post : Nat → St → Prop} {Q : State → Prop} (h1 : kd S v0 = 13) (h2 : gP S 772 v0 = some x1) (hc : ConR l yJx4a65c_get_915e3 (wsOf yJx4a65c_get_915e3 cJx4a65c_get_915e3 2 (some (.object "java/lang/Object"))) rJx4a65c_get_915e3 w S [.ref x1, .int v4] post) (h3 : kd S x1 = 1) (kk : ∀ (r : Nat) (S' : St), post r S' → K p l e rX11_lyingAt s m args below meth c 6 w 0 0 Q S' 26 [(0, .ref v0), (1, .int v1), (2, .int v2), (3, .int v3), (4, .int v4)] [.ref r]) : K p l e rX11_lyingAt s m args below meth c 6 w 0 0 Q S 17 [(0, .ref v0), (1, .int v1), (2, .int v2), (3, .int v3), (4, .int v4)] [] := by
  refine k_aload_n B 0 rfl rfl dX11_lyingAt_17 ?_
  refine k_getP (f := 772) (r := gP S 772 v0) B 12 4 rfl (by decide) rfl (by decide) rfl rfl (fun w h => in_of (uw_12 w h)) (in_of qfRX11_29) dX11_lyingAt_18 h1 rfl ?_
  rw [h2]; change K _ _ _ _ _ _ _ _ _ _ _ _ _ _ _ _ _ _ (.ref x1 :: _)
  refine k_iload B 4 rfl dX11_lyingAt_21 ?_
  refine callV_R (st := []) B [.int v4] (hc) (cwV 1 B.1.2.2.2.2 (gV qlRX11_124 qiJx4a65c_get_915e3 qeJx4a65c_get_915e3 qzRJx4a65c qcJx4a65c_get_915e3) rfl rfl rfl (by decide +kernel) ⟨Nat.le_of_ble_eq_true rfl, Nat.le_of_ble_eq_true rfl⟩) rfl rfl (by decide) h3 (Nat.le_of_ble_eq_true rfl) rfl dX11_lyingAt_23 ⟨Nat.le_of_ble_eq_true rfl, Nat.le_of_ble_eq_true rfl⟩ (fun r S' hp => ?_)
  exact kk r S' hp
theorem bX11_lyingAt_26 (B : Bd p s m args meth c cX11_lyingAt 6 (wsOf yX11_lyingAt cX11_lyingAt 6 (some .int)) RX11 w (some .int) "lyingAt") {v0 : Nat} {v1 : Int32} {v2 : Int32} {v3 : Int32} {v4 : Int32} {t0 : Nat} {Q : State → Prop} (h1 : kd S t0 = 5) (kt : ¬ (gI S 265 t0) = v1 → K p l e rX11_lyingAt s m args below meth c 6 w 0 0 Q S 52 [(0, .ref v0), (1, .int v1), (2, .int v2), (3, .int v3), (4, .int v4)] []) (kf : (gI S 265 t0) = v1 → K p l e rX11_lyingAt s m args below meth c 6 w 0 0 Q S 40 [(0, .ref v0), (1, .int v1), (2, .int v2), (3, .int v3), (4, .int v4), (5, .ref t0)] []) : K p l e rX11_lyingAt s m args below meth c 6 w 0 0 Q S 26 [(0, .ref v0), (1, .int v1), (2, .int v2), (3, .int v3), (4, .int v4)] [.ref t0] := by
  refine k_cast B 4 rfl (by decide) (in_of qkRX11_144) dX11_lyingAt_26 h1 ?_
  refine k_astore (lst' := [(5, .ref t0), (0, .ref v0), (1, .int v1), (2, .int v2), (3, .int v3), (4, .int v4)]) B (by decide) rfl dX11_lyingAt_29 ?_
  refine k_aload B 0 rfl dX11_lyingAt_31 ?_
  refine k_getI (f := 265) (v := gI S 265 t0) B 4 9 rfl (by decide) rfl (by decide) rfl rfl (fun w h => in_of (uw_4 w h)) (in_of qfRX11_358) dX11_lyingAt_33 h1 rfl ?_
  refine k_iload_n B 2 rfl rfl dX11_lyingAt_36 ?_
  refine k_icmp_ne (tgt := 52) B dX11_lyingAt_37 (by decide) (fun c => ?_) (fun c => ?_)
  · refine k_sub [1, 2, 3, 4, 5] rfl ?_
    exact kt c
  · refine k_sub [1, 2, 3, 4, 5, 0] rfl ?_
    exact kf c
theorem bX11_lyingAt_40 (B : Bd p s m args meth c cX11_lyingAt 6 (wsOf yX11_lyingAt cX11_lyingAt 6 (some .int)) RX11 w (some .int) "lyingAt") {v0 : Nat} {v1 : Int32} {v2 : Int32} {v3 : Int32} {v4 : Int32} {v5 : Nat} {Q : State → Prop} (h1 : kd S v5 = 5) (kt : ¬ (gI S 266 v5) = v2 → K p l e rX11_lyingAt s m args below meth c 6 w 0 0 Q S 52 [(0, .ref v0), (1, .int v1), (2, .int v2), (3, .int v3), (4, .int v4)] []) (kf : (gI S 266 v5) = v2 → K p l e rX11_lyingAt s m args below meth c 6 w 0 0 Q S 49 [(0, .ref v0), (1, .int v1), (2, .int v2), (3, .int v3), (4, .int v4)] []) : K p l e rX11_lyingAt s m args below meth c 6 w 0 0 Q S 40 [(0, .ref v0), (1, .int v1), (2, .int v2), (3, .int v3), (4, .int v4), (5, .ref v5)] [] := by
  refine k_aload B 5 rfl dX11_lyingAt_40 ?_
  refine k_getI (f := 266) (v := gI S 266 v5) B 4 10 rfl (by decide) rfl (by decide) rfl rfl (fun w h => in_of (uw_4 w h)) (in_of qfRX11_362) dX11_lyingAt_42 h1 rfl ?_
  refine k_iload_n B 2 rfl rfl dX11_lyingAt_45 ?_
  refine k_icmp_ne (tgt := 52) B dX11_lyingAt_46 (by decide) (fun c => ?_) (fun c => ?_)
  · refine k_sub [0, 1, 2, 3, 4] rfl ?_
    exact kt c
  · refine k_sub [0, 1, 2, 3, 4] rfl ?_
    exact kf c
theorem bX11_lyingAt_49 (B : Bd p s m args meth c cX11_lyingAt 6 (wsOf yX11_lyingAt cX11_lyingAt 6 (some .int)) RX11 w (some .int) "lyingAt") {v0 : Nat} {v1 : Int32} {v2 : Int32} {v3 : Int32} {v4 : Int32} {Q : State → Prop}  (kk : K p l e rX11_lyingAt s m args below meth c 6 w 0 0 Q S 52 [(0, .ref v0), (1, .int v1), (2, .int v2), (3, .int (v3 + 1)), (4, .int v4)] []) : K p l e rX11_lyingAt s m args below meth c 6 w 0 0 Q S 49 [(0, .ref v0), (1, .int v1), (2, .int v2), (3, .int v3), (4, .int v4)] [] := by
  refine k_iinc (v := v3 + 1) (lst' := [(3, .int (v3 + 1)), (0, .ref v0), (1, .int v1), (2, .int v2), (4, .int v4)]) B 3 rfl rfl (by decide) rfl dX11_lyingAt_49 ?_
  refine k_sub [1, 2, 3, 0, 4] rfl ?_
  exact kk
theorem bX11_lyingAt_52 (B : Bd p s m args meth c cX11_lyingAt 6 (wsOf yX11_lyingAt cX11_lyingAt 6 (some .int)) RX11 w (some .int) "lyingAt") {v0 : Nat} {v1 : Int32} {v2 : Int32} {v3 : Int32} {v4 : Int32} {Q : State → Prop}  (kk : K p l e rX11_lyingAt s m args below meth c 6 w 0 0 Q S 5 [(0, .ref v0), (1, .int v1), (2, .int v2), (3, .int v3), (4, .int (v4 + 1))] []) : K p l e rX11_lyingAt s m args below meth c 6 w 0 0 Q S 52 [(0, .ref v0), (1, .int v1), (2, .int v2), (3, .int v3), (4, .int v4)] [] := by
  refine k_iinc (v := v4 + 1) (lst' := [(4, .int (v4 + 1)), (0, .ref v0), (1, .int v1), (2, .int v2), (3, .int v3)]) B 4 rfl rfl (by decide) rfl dX11_lyingAt_52 ?_
  refine k_goto (tgt := 5) B dX11_lyingAt_55 (by decide) ?_
  refine k_sub [1, 2, 3, 4, 0] rfl ?_
  exact kk
theorem bX11_lyingAt_58 (B : Bd p s m args meth c cX11_lyingAt 6 (wsOf yX11_lyingAt cX11_lyingAt 6 (some .int)) RX11 w (some .int) "lyingAt") {v3 : Int32} {post : Int32 → St → Prop}  (hq : post v3 S) : K p l e rX11_lyingAt s m args below meth c 6 w 0 0 (MQ below (va_Qi post (fun S' t => Hd w S' t.heap) (wA w)) args s 0 0 (wA w)) S 58 [(3, .int v3)] [] := by
  refine k_iload_n B 0 rfl rfl dX11_lyingAt_58 ?_
  exact ret_I B rfl dX11_lyingAt_59 (hq)
theorem bX11_waitingFor_0 (B : Bd p s m args meth c cX11_waitingFor 5 (wsOf yX11_waitingFor cX11_waitingFor 5 (some .int)) RX11 w (some .int) "waitingFor") {v0 : Nat} {v1 : Int32} {Q : State → Prop}  (kk : K p l e rX11_waitingFor s m args below meth c 5 w 0 0 Q S 4 [(0, .ref v0), (1, .int v1), (2, .int 0), (3, .int 0)] []) : K p l e rX11_waitingFor s m args below meth c 5 w 0 0 Q S 0 [(0, .ref v0), (1, .int v1)] [] := by
  refine k_iconst (v := 0) B (by decide) dX11_waitingFor_0 ?_
  refine k_istore_n (lst' := [(2, .int 0), (0, .ref v0), (1, .int v1)]) B rfl (by decide) rfl dX11_waitingFor_1 ?_
  refine k_iconst (v := 0) B (by decide) dX11_waitingFor_2 ?_
  refine k_istore_n (lst' := [(3, .int 0), (2, .int 0), (0, .ref v0), (1, .int v1)]) B rfl (by decide) rfl dX11_waitingFor_3 ?_
  refine k_sub [2, 3, 1, 0] rfl ?_
  exact kk
theorem bX11_waitingFor_4 (B : Bd p s m args meth c cX11_waitingFor 5 (wsOf yX11_waitingFor cX11_waitingFor 5 (some .int)) RX11 w (some .int) "waitingFor") {v0 : Nat} {v1 : Int32} {v2 : Int32} {v3 : Int32} {x1 : Nat} {post : Int32 → St → Prop} {Q : State → Prop} (h1 : kd S v0 = 13) (h2 : gP S 772 v0 = some x1) (hc : ConI l yJx4a65c_size_8abf5 (wsOf yJx4a65c_size_8abf5 cJx4a65c_size_8abf5 1 (some .int)) rJx4a65c_size_8abf5 w S [.ref x1] post) (h3 : kd S x1 = 1) (kk : ∀ (r : Int32) (S' : St), post r S' → K p l e rX11_waitingFor s m args below meth c 5 w 0 0 Q S' 12 [(0, .ref v0), (1, .int v1), (2, .int v2), (3, .int v3)] [.int r, .int v3]) : K p l e rX11_waitingFor s m args below meth c 5 w 0 0 Q S 4 [(0, .ref v0), (1, .int v1), (2, .int v2), (3, .int v3)] [] := by
  refine k_iload_n B 3 rfl rfl dX11_waitingFor_4 ?_
  refine k_aload_n B 0 rfl rfl dX11_waitingFor_5 ?_
  refine k_getP (f := 772) (r := gP S 772 v0) B 12 4 rfl (by decide) rfl (by decide) rfl rfl (fun w h => in_of (uw_12 w h)) (in_of qfRX11_29) dX11_waitingFor_6 h1 rfl ?_
  rw [h2]; change K _ _ _ _ _ _ _ _ _ _ _ _ _ _ _ _ _ _ (.ref x1 :: _)
  refine callV_I (st := [.int v3]) B [] (hc) (cwV 0 B.1.2.2.2.2 (gV qlRX11_101 qiJx4a65c_size_8abf5 qeJx4a65c_size_8abf5 qzRJx4a65c qcJx4a65c_size_8abf5) rfl rfl rfl (by decide +kernel) ⟨Nat.le_of_ble_eq_true rfl, Nat.le_of_ble_eq_true rfl⟩) rfl rfl (by decide) h3 (Nat.le_of_ble_eq_true rfl) rfl dX11_waitingFor_9 ⟨Nat.le_of_ble_eq_true rfl, Nat.le_of_ble_eq_true rfl⟩ (fun r S' hp => ?_)
  exact kk r S' hp
theorem bX11_waitingFor_12 (B : Bd p s m args meth c cX11_waitingFor 5 (wsOf yX11_waitingFor cX11_waitingFor 5 (some .int)) RX11 w (some .int) "waitingFor") {v0 : Nat} {v1 : Int32} {v2 : Int32} {v3 : Int32} {t0 : Int32} {t1 : Int32} {Q : State → Prop}  (kt : t1 ≤ t0 → K p l e rX11_waitingFor s m args below meth c 5 w 0 0 Q S 54 [(2, .int v2)] []) (kf : ¬ t1 ≤ t0 → K p l e rX11_waitingFor s m args below meth c 5 w 0 0 Q S 15 [(0, .ref v0), (1, .int v1), (2, .int v2), (3, .int v3)] []) : K p l e rX11_waitingFor s m args below meth c 5 w 0 0 Q S 12 [(0, .ref v0), (1, .int v1), (2, .int v2), (3, .int v3)] [.int t1, .int t0] := by
  refine k_icmp_ge (tgt := 54) B dX11_waitingFor_12 (by decide) (fun c => ?_) (fun c => ?_)
  · refine k_sub [2] rfl ?_
    exact kt c
  · exact kf c
theorem bX11_waitingFor_15 (B : Bd p s m args meth c cX11_waitingFor 5 (wsOf yX11_waitingFor cX11_waitingFor 5 (some .int)) RX11 w (some .int) "waitingFor") {v0 : Nat} {v1 : Int32} {v2 : Int32} {v3 : Int32} {x1 : Nat} {post : Nat → St → Prop} {Q : State → Prop} (h1 : kd S v0 = 13) (h2 : gP S 772 v0 = some x1) (hc : ConR l yJx4a65c_get_915e3 (wsOf yJx4a65c_get_915e3 cJx4a65c_get_915e3 2 (some (.object "java/lang/Object"))) rJx4a65c_get_915e3 w S [.ref x1, .int v3] post) (h3 : kd S x1 = 1) (kk : ∀ (r : Nat) (S' : St), post r S' → K p l e rX11_waitingFor s m args below meth c 5 w 0 0 Q S' 23 [(0, .ref v0), (1, .int v1), (2, .int v2), (3, .int v3)] [.ref r]) : K p l e rX11_waitingFor s m args below meth c 5 w 0 0 Q S 15 [(0, .ref v0), (1, .int v1), (2, .int v2), (3, .int v3)] [] := by
  refine k_aload_n B 0 rfl rfl dX11_waitingFor_15 ?_
  refine k_getP (f := 772) (r := gP S 772 v0) B 12 4 rfl (by decide) rfl (by decide) rfl rfl (fun w h => in_of (uw_12 w h)) (in_of qfRX11_29) dX11_waitingFor_16 h1 rfl ?_
  rw [h2]; change K _ _ _ _ _ _ _ _ _ _ _ _ _ _ _ _ _ _ (.ref x1 :: _)
  refine k_iload_n B 3 rfl rfl dX11_waitingFor_19 ?_
  refine callV_R (st := []) B [.int v3] (hc) (cwV 1 B.1.2.2.2.2 (gV qlRX11_124 qiJx4a65c_get_915e3 qeJx4a65c_get_915e3 qzRJx4a65c qcJx4a65c_get_915e3) rfl rfl rfl (by decide +kernel) ⟨Nat.le_of_ble_eq_true rfl, Nat.le_of_ble_eq_true rfl⟩) rfl rfl (by decide) h3 (Nat.le_of_ble_eq_true rfl) rfl dX11_waitingFor_20 ⟨Nat.le_of_ble_eq_true rfl, Nat.le_of_ble_eq_true rfl⟩ (fun r S' hp => ?_)
  exact kk r S' hp
theorem bX11_waitingFor_23 (B : Bd p s m args meth c cX11_waitingFor 5 (wsOf yX11_waitingFor cX11_waitingFor 5 (some .int)) RX11 w (some .int) "waitingFor") {v0 : Nat} {v1 : Int32} {v2 : Int32} {v3 : Int32} {t0 : Nat} {Q : State → Prop} (h1 : kd S t0 = 5) (kt : ¬ (gI S 259 t0) = v1 → K p l e rX11_waitingFor s m args below meth c 5 w 0 0 Q S 48 [(0, .ref v0), (1, .int v1), (2, .int v2), (3, .int v3)] []) (kf : (gI S 259 t0) = v1 → K p l e rX11_waitingFor s m args below meth c 5 w 0 0 Q S 37 [(0, .ref v0), (1, .int v1), (2, .int v2), (3, .int v3), (4, .ref t0)] []) : K p l e rX11_waitingFor s m args below meth c 5 w 0 0 Q S 23 [(0, .ref v0), (1, .int v1), (2, .int v2), (3, .int v3)] [.ref t0] := by
  refine k_cast B 4 rfl (by decide) (in_of qkRX11_144) dX11_waitingFor_23 h1 ?_
  refine k_astore (lst' := [(4, .ref t0), (0, .ref v0), (1, .int v1), (2, .int v2), (3, .int v3)]) B (by decide) rfl dX11_waitingFor_26 ?_
  refine k_aload B 0 rfl dX11_waitingFor_28 ?_
  refine k_getI (f := 259) (v := gI S 259 t0) B 4 3 rfl (by decide) rfl (by decide) rfl rfl (fun w h => in_of (uw_4 w h)) (in_of qfRX11_349) dX11_waitingFor_30 h1 rfl ?_
  refine k_iload_n B 2 rfl rfl dX11_waitingFor_33 ?_
  refine k_icmp_ne (tgt := 48) B dX11_waitingFor_34 (by decide) (fun c => ?_) (fun c => ?_)
  · refine k_sub [1, 2, 3, 4] rfl ?_
    exact kt c
  · refine k_sub [1, 2, 3, 4, 0] rfl ?_
    exact kf c
theorem bX11_waitingFor_37 (B : Bd p s m args meth c cX11_waitingFor 5 (wsOf yX11_waitingFor cX11_waitingFor 5 (some .int)) RX11 w (some .int) "waitingFor") {v0 : Nat} {v1 : Int32} {v2 : Int32} {v3 : Int32} {v4 : Nat} {Q : State → Prop} (h1 : kd S v4 = 5) (kt : ¬ (gI S 265 v4) = 0 → K p l e rX11_waitingFor s m args below meth c 5 w 0 0 Q S 48 [(0, .ref v0), (1, .int v1), (2, .int v2), (3, .int v3)] []) (kf : (gI S 265 v4) = 0 → K p l e rX11_waitingFor s m args below meth c 5 w 0 0 Q S 45 [(0, .ref v0), (1, .int v1), (2, .int v2), (3, .int v3)] []) : K p l e rX11_waitingFor s m args below meth c 5 w 0 0 Q S 37 [(0, .ref v0), (1, .int v1), (2, .int v2), (3, .int v3), (4, .ref v4)] [] := by
  refine k_aload B 4 rfl dX11_waitingFor_37 ?_
  refine k_getI (f := 265) (v := gI S 265 v4) B 4 9 rfl (by decide) rfl (by decide) rfl rfl (fun w h => in_of (uw_4 w h)) (in_of qfRX11_358) dX11_waitingFor_39 h1 rfl ?_
  refine k_if_ne (tgt := 48) B dX11_waitingFor_42 (by decide) (fun c => ?_) (fun c => ?_)
  · refine k_sub [0, 1, 2, 3] rfl ?_
    exact kt c
  · refine k_sub [0, 1, 2, 3] rfl ?_
    exact kf c
theorem bX11_waitingFor_45 (B : Bd p s m args meth c cX11_waitingFor 5 (wsOf yX11_waitingFor cX11_waitingFor 5 (some .int)) RX11 w (some .int) "waitingFor") {v0 : Nat} {v1 : Int32} {v2 : Int32} {v3 : Int32} {Q : State → Prop}  (kk : K p l e rX11_waitingFor s m args below meth c 5 w 0 0 Q S 48 [(0, .ref v0), (1, .int v1), (2, .int (v2 + 1)), (3, .int v3)] []) : K p l e rX11_waitingFor s m args below meth c 5 w 0 0 Q S 45 [(0, .ref v0), (1, .int v1), (2, .int v2), (3, .int v3)] [] := by
  refine k_iinc (v := v2 + 1) (lst' := [(2, .int (v2 + 1)), (0, .ref v0), (1, .int v1), (3, .int v3)]) B 2 rfl rfl (by decide) rfl dX11_waitingFor_45 ?_
  refine k_sub [1, 2, 0, 3] rfl ?_
  exact kk
theorem bX11_waitingFor_48 (B : Bd p s m args meth c cX11_waitingFor 5 (wsOf yX11_waitingFor cX11_waitingFor 5 (some .int)) RX11 w (some .int) "waitingFor") {v0 : Nat} {v1 : Int32} {v2 : Int32} {v3 : Int32} {Q : State → Prop}  (kk : K p l e rX11_waitingFor s m args below meth c 5 w 0 0 Q S 4 [(0, .ref v0), (1, .int v1), (2, .int v2), (3, .int (v3 + 1))] []) : K p l e rX11_waitingFor s m args below meth c 5 w 0 0 Q S 48 [(0, .ref v0), (1, .int v1), (2, .int v2), (3, .int v3)] [] := by
  refine k_iinc (v := v3 + 1) (lst' := [(3, .int (v3 + 1)), (0, .ref v0), (1, .int v1), (2, .int v2)]) B 3 rfl rfl (by decide) rfl dX11_waitingFor_48 ?_
  refine k_goto (tgt := 4) B dX11_waitingFor_51 (by decide) ?_
  refine k_sub [1, 2, 3, 0] rfl ?_
  exact kk
theorem bX11_waitingFor_54 (B : Bd p s m args meth c cX11_waitingFor 5 (wsOf yX11_waitingFor cX11_waitingFor 5 (some .int)) RX11 w (some .int) "waitingFor") {v2 : Int32} {post : Int32 → St → Prop}  (hq : post v2 S) : K p l e rX11_waitingFor s m args below meth c 5 w 0 0 (MQ below (va_Qi post (fun S' t => Hd w S' t.heap) (wA w)) args s 0 0 (wA w)) S 54 [(2, .int v2)] [] := by
  refine k_iload_n B 0 rfl rfl dX11_waitingFor_54 ?_
  exact ret_I B rfl dX11_waitingFor_55 (hq)
theorem bX11_looseParcels_0 (B : Bd p s m args meth c cX11_looseParcels 3 (wsOf yX11_looseParcels cX11_looseParcels 3 (some .int)) RX11 w (some .int) "looseParcels") {v0 : Nat} {Q : State → Prop}  (kk : K p l e rX11_looseParcels s m args below meth c 3 w 0 0 Q S 4 [(0, .ref v0), (1, .int 0), (2, .int 0)] []) : K p l e rX11_looseParcels s m args below meth c 3 w 0 0 Q S 0 [(0, .ref v0)] [] := by
  refine k_iconst (v := 0) B (by decide) dX11_looseParcels_0 ?_
  refine k_istore_n (lst' := [(1, .int 0), (0, .ref v0)]) B rfl (by decide) rfl dX11_looseParcels_1 ?_
  refine k_iconst (v := 0) B (by decide) dX11_looseParcels_2 ?_
  refine k_istore_n (lst' := [(2, .int 0), (1, .int 0), (0, .ref v0)]) B rfl (by decide) rfl dX11_looseParcels_3 ?_
  refine k_sub [2, 1, 0] rfl ?_
  exact kk
theorem bX11_looseParcels_4 (B : Bd p s m args meth c cX11_looseParcels 3 (wsOf yX11_looseParcels cX11_looseParcels 3 (some .int)) RX11 w (some .int) "looseParcels") {v0 : Nat} {v1 : Int32} {v2 : Int32} {x1 : Nat} {post : Int32 → St → Prop} {Q : State → Prop} (h1 : kd S v0 = 13) (h2 : gP S 772 v0 = some x1) (hc : ConI l yJx4a65c_size_8abf5 (wsOf yJx4a65c_size_8abf5 cJx4a65c_size_8abf5 1 (some .int)) rJx4a65c_size_8abf5 w S [.ref x1] post) (h3 : kd S x1 = 1) (kk : ∀ (r : Int32) (S' : St), post r S' → K p l e rX11_looseParcels s m args below meth c 3 w 0 0 Q S' 12 [(0, .ref v0), (1, .int v1), (2, .int v2)] [.int r, .int v2]) : K p l e rX11_looseParcels s m args below meth c 3 w 0 0 Q S 4 [(0, .ref v0), (1, .int v1), (2, .int v2)] [] := by
  refine k_iload_n B 2 rfl rfl dX11_looseParcels_4 ?_
  refine k_aload_n B 0 rfl rfl dX11_looseParcels_5 ?_
  refine k_getP (f := 772) (r := gP S 772 v0) B 12 4 rfl (by decide) rfl (by decide) rfl rfl (fun w h => in_of (uw_12 w h)) (in_of qfRX11_29) dX11_looseParcels_6 h1 rfl ?_
  rw [h2]; change K _ _ _ _ _ _ _ _ _ _ _ _ _ _ _ _ _ _ (.ref x1 :: _)
  refine callV_I (st := [.int v2]) B [] (hc) (cwV 0 B.1.2.2.2.2 (gV qlRX11_101 qiJx4a65c_size_8abf5 qeJx4a65c_size_8abf5 qzRJx4a65c qcJx4a65c_size_8abf5) rfl rfl rfl (by decide +kernel) ⟨Nat.le_of_ble_eq_true rfl, Nat.le_of_ble_eq_true rfl⟩) rfl rfl (by decide) h3 (Nat.le_of_ble_eq_true rfl) rfl dX11_looseParcels_9 ⟨Nat.le_of_ble_eq_true rfl, Nat.le_of_ble_eq_true rfl⟩ (fun r S' hp => ?_)
  exact kk r S' hp
theorem bX11_looseParcels_12 (B : Bd p s m args meth c cX11_looseParcels 3 (wsOf yX11_looseParcels cX11_looseParcels 3 (some .int)) RX11 w (some .int) "looseParcels") {v0 : Nat} {v1 : Int32} {v2 : Int32} {t0 : Int32} {t1 : Int32} {Q : State → Prop}  (kt : t1 ≤ t0 → K p l e rX11_looseParcels s m args below meth c 3 w 0 0 Q S 41 [(1, .int v1)] []) (kf : ¬ t1 ≤ t0 → K p l e rX11_looseParcels s m args below meth c 3 w 0 0 Q S 15 [(0, .ref v0), (1, .int v1), (2, .int v2)] []) : K p l e rX11_looseParcels s m args below meth c 3 w 0 0 Q S 12 [(0, .ref v0), (1, .int v1), (2, .int v2)] [.int t1, .int t0] := by
  refine k_icmp_ge (tgt := 41) B dX11_looseParcels_12 (by decide) (fun c => ?_) (fun c => ?_)
  · refine k_sub [1] rfl ?_
    exact kt c
  · exact kf c
theorem bX11_looseParcels_15 (B : Bd p s m args meth c cX11_looseParcels 3 (wsOf yX11_looseParcels cX11_looseParcels 3 (some .int)) RX11 w (some .int) "looseParcels") {v0 : Nat} {v1 : Int32} {v2 : Int32} {x1 : Nat} {post : Nat → St → Prop} {Q : State → Prop} (h1 : kd S v0 = 13) (h2 : gP S 772 v0 = some x1) (hc : ConR l yJx4a65c_get_915e3 (wsOf yJx4a65c_get_915e3 cJx4a65c_get_915e3 2 (some (.object "java/lang/Object"))) rJx4a65c_get_915e3 w S [.ref x1, .int v2] post) (h3 : kd S x1 = 1) (kk : ∀ (r : Nat) (S' : St), post r S' → K p l e rX11_looseParcels s m args below meth c 3 w 0 0 Q S' 23 [(0, .ref v0), (1, .int v1), (2, .int v2)] [.ref r]) : K p l e rX11_looseParcels s m args below meth c 3 w 0 0 Q S 15 [(0, .ref v0), (1, .int v1), (2, .int v2)] [] := by
  refine k_aload_n B 0 rfl rfl dX11_looseParcels_15 ?_
  refine k_getP (f := 772) (r := gP S 772 v0) B 12 4 rfl (by decide) rfl (by decide) rfl rfl (fun w h => in_of (uw_12 w h)) (in_of qfRX11_29) dX11_looseParcels_16 h1 rfl ?_
  rw [h2]; change K _ _ _ _ _ _ _ _ _ _ _ _ _ _ _ _ _ _ (.ref x1 :: _)
  refine k_iload_n B 2 rfl rfl dX11_looseParcels_19 ?_
  refine callV_R (st := []) B [.int v2] (hc) (cwV 1 B.1.2.2.2.2 (gV qlRX11_124 qiJx4a65c_get_915e3 qeJx4a65c_get_915e3 qzRJx4a65c qcJx4a65c_get_915e3) rfl rfl rfl (by decide +kernel) ⟨Nat.le_of_ble_eq_true rfl, Nat.le_of_ble_eq_true rfl⟩) rfl rfl (by decide) h3 (Nat.le_of_ble_eq_true rfl) rfl dX11_looseParcels_20 ⟨Nat.le_of_ble_eq_true rfl, Nat.le_of_ble_eq_true rfl⟩ (fun r S' hp => ?_)
  exact kk r S' hp
theorem bX11_looseParcels_23 (B : Bd p s m args meth c cX11_looseParcels 3 (wsOf yX11_looseParcels cX11_looseParcels 3 (some .int)) RX11 w (some .int) "looseParcels") {v0 : Nat} {v1 : Int32} {v2 : Int32} {t0 : Nat} {post : Int32 → St → Prop} {Q : State → Prop} (h1 : kd S t0 = 5) (hc : ConI l yX11_isLoose (wsOf yX11_isLoose cX11_isLoose 1 (some .boolean)) rX11_isLoose w S [.ref t0] post) (kk : ∀ (r : Int32) (S' : St), post r S' → K p l e rX11_looseParcels s m args below meth c 3 w 0 0 Q S' 29 [(0, .ref v0), (1, .int v1), (2, .int v2)] [.int r]) : K p l e rX11_looseParcels s m args below meth c 3 w 0 0 Q S 23 [(0, .ref v0), (1, .int v1), (2, .int v2)] [.ref t0] := by
  refine k_cast B 4 rfl (by decide) (in_of qkRX11_144) dX11_looseParcels_23 h1 ?_
  refine callS_I (st := []) B [.ref t0] (hc) (va_cwS 1 B.1.2.2.2.2 (gS qlRX11_163 qsX11_isLoose qzRX11 qcX11_isLoose) rfl rfl rfl (by decide +kernel) ⟨Nat.le_of_ble_eq_true rfl, Nat.le_of_ble_eq_true rfl⟩) rfl (Nat.le_of_ble_eq_true rfl) rfl dX11_looseParcels_26 ⟨Nat.le_of_ble_eq_true rfl, Nat.le_of_ble_eq_true rfl⟩ (fun r S' hp => ?_)
  exact kk r S' hp
theorem bX11_looseParcels_29 (B : Bd p s m args meth c cX11_looseParcels 3 (wsOf yX11_looseParcels cX11_looseParcels 3 (some .int)) RX11 w (some .int) "looseParcels") {v0 : Nat} {v1 : Int32} {v2 : Int32} {t0 : Int32} {Q : State → Prop}  (kt : t0 = 0 → K p l e rX11_looseParcels s m args below meth c 3 w 0 0 Q S 35 [(0, .ref v0), (1, .int v1), (2, .int v2)] []) (kf : ¬ t0 = 0 → K p l e rX11_looseParcels s m args below meth c 3 w 0 0 Q S 32 [(0, .ref v0), (1, .int v1), (2, .int v2)] []) : K p l e rX11_looseParcels s m args below meth c 3 w 0 0 Q S 29 [(0, .ref v0), (1, .int v1), (2, .int v2)] [.int t0] := by
  refine k_if_eq (tgt := 35) B dX11_looseParcels_29 (by decide) (fun c => ?_) (fun c => ?_)
  · exact kt c
  · exact kf c
theorem bX11_looseParcels_32 (B : Bd p s m args meth c cX11_looseParcels 3 (wsOf yX11_looseParcels cX11_looseParcels 3 (some .int)) RX11 w (some .int) "looseParcels") {v0 : Nat} {v1 : Int32} {v2 : Int32} {Q : State → Prop}  (kk : K p l e rX11_looseParcels s m args below meth c 3 w 0 0 Q S 35 [(0, .ref v0), (1, .int (v1 + 1)), (2, .int v2)] []) : K p l e rX11_looseParcels s m args below meth c 3 w 0 0 Q S 32 [(0, .ref v0), (1, .int v1), (2, .int v2)] [] := by
  refine k_iinc (v := v1 + 1) (lst' := [(1, .int (v1 + 1)), (0, .ref v0), (2, .int v2)]) B 1 rfl rfl (by decide) rfl dX11_looseParcels_32 ?_
  refine k_sub [1, 0, 2] rfl ?_
  exact kk
theorem bX11_looseParcels_35 (B : Bd p s m args meth c cX11_looseParcels 3 (wsOf yX11_looseParcels cX11_looseParcels 3 (some .int)) RX11 w (some .int) "looseParcels") {v0 : Nat} {v1 : Int32} {v2 : Int32} {Q : State → Prop}  (kk : K p l e rX11_looseParcels s m args below meth c 3 w 0 0 Q S 4 [(0, .ref v0), (1, .int v1), (2, .int (v2 + 1))] []) : K p l e rX11_looseParcels s m args below meth c 3 w 0 0 Q S 35 [(0, .ref v0), (1, .int v1), (2, .int v2)] [] := by
  refine k_iinc (v := v2 + 1) (lst' := [(2, .int (v2 + 1)), (0, .ref v0), (1, .int v1)]) B 2 rfl rfl (by decide) rfl dX11_looseParcels_35 ?_
  refine k_goto (tgt := 4) B dX11_looseParcels_38 (by decide) ?_
  refine k_sub [1, 2, 0] rfl ?_
  exact kk
theorem bX11_looseParcels_41 (B : Bd p s m args meth c cX11_looseParcels 3 (wsOf yX11_looseParcels cX11_looseParcels 3 (some .int)) RX11 w (some .int) "looseParcels") {v1 : Int32} {post : Int32 → St → Prop}  (hq : post v1 S) : K p l e rX11_looseParcels s m args below meth c 3 w 0 0 (MQ below (va_Qi post (fun S' t => Hd w S' t.heap) (wA w)) args s 0 0 (wA w)) S 41 [(1, .int v1)] [] := by
  refine k_iload_n B 0 rfl rfl dX11_looseParcels_41 ?_
  exact ret_I B rfl dX11_looseParcels_42 (hq)
theorem bX11_costOfAll_0 (B : Bd p s m args meth c cX11_costOfAll 3 (wsOf yX11_costOfAll cX11_costOfAll 3 (some .int)) RX11 w (some .int) "costOfAll") {v0 : Nat} {Q : State → Prop}  (kk : K p l e rX11_costOfAll s m args below meth c 3 w 0 0 Q S 4 [(0, .ref v0), (1, .int 0), (2, .int 0)] []) : K p l e rX11_costOfAll s m args below meth c 3 w 0 0 Q S 0 [(0, .ref v0)] [] := by
  refine k_iconst (v := 0) B (by decide) dX11_costOfAll_0 ?_
  refine k_istore_n (lst' := [(1, .int 0), (0, .ref v0)]) B rfl (by decide) rfl dX11_costOfAll_1 ?_
  refine k_iconst (v := 0) B (by decide) dX11_costOfAll_2 ?_
  refine k_istore_n (lst' := [(2, .int 0), (1, .int 0), (0, .ref v0)]) B rfl (by decide) rfl dX11_costOfAll_3 ?_
  refine k_sub [2, 1, 0] rfl ?_
  exact kk
theorem bX11_costOfAll_4 (B : Bd p s m args meth c cX11_costOfAll 3 (wsOf yX11_costOfAll cX11_costOfAll 3 (some .int)) RX11 w (some .int) "costOfAll") {v0 : Nat} {v1 : Int32} {v2 : Int32} {x1 : Nat} {post : Int32 → St → Prop} {Q : State → Prop} (h1 : kd S v0 = 13) (h2 : gP S 771 v0 = some x1) (hc : ConI l yJx4a65c_size_8abf5 (wsOf yJx4a65c_size_8abf5 cJx4a65c_size_8abf5 1 (some .int)) rJx4a65c_size_8abf5 w S [.ref x1] post) (h3 : kd S x1 = 1) (kk : ∀ (r : Int32) (S' : St), post r S' → K p l e rX11_costOfAll s m args below meth c 3 w 0 0 Q S' 12 [(0, .ref v0), (1, .int v1), (2, .int v2)] [.int r, .int v2]) : K p l e rX11_costOfAll s m args below meth c 3 w 0 0 Q S 4 [(0, .ref v0), (1, .int v1), (2, .int v2)] [] := by
  refine k_iload_n B 2 rfl rfl dX11_costOfAll_4 ?_
  refine k_aload_n B 0 rfl rfl dX11_costOfAll_5 ?_
  refine k_getP (f := 771) (r := gP S 771 v0) B 12 3 rfl (by decide) rfl (by decide) rfl rfl (fun w h => in_of (uw_12 w h)) (in_of qfRX11_26) dX11_costOfAll_6 h1 rfl ?_
  rw [h2]; change K _ _ _ _ _ _ _ _ _ _ _ _ _ _ _ _ _ _ (.ref x1 :: _)
  refine callV_I (st := [.int v2]) B [] (hc) (cwV 0 B.1.2.2.2.2 (gV qlRX11_101 qiJx4a65c_size_8abf5 qeJx4a65c_size_8abf5 qzRJx4a65c qcJx4a65c_size_8abf5) rfl rfl rfl (by decide +kernel) ⟨Nat.le_of_ble_eq_true rfl, Nat.le_of_ble_eq_true rfl⟩) rfl rfl (by decide) h3 (Nat.le_of_ble_eq_true rfl) rfl dX11_costOfAll_9 ⟨Nat.le_of_ble_eq_true rfl, Nat.le_of_ble_eq_true rfl⟩ (fun r S' hp => ?_)
  exact kk r S' hp
theorem bX11_costOfAll_12 (B : Bd p s m args meth c cX11_costOfAll 3 (wsOf yX11_costOfAll cX11_costOfAll 3 (some .int)) RX11 w (some .int) "costOfAll") {v0 : Nat} {v1 : Int32} {v2 : Int32} {t0 : Int32} {t1 : Int32} {Q : State → Prop}  (kt : t1 ≤ t0 → K p l e rX11_costOfAll s m args below meth c 3 w 0 0 Q S 56 [(1, .int v1)] []) (kf : ¬ t1 ≤ t0 → K p l e rX11_costOfAll s m args below meth c 3 w 0 0 Q S 15 [(0, .ref v0), (1, .int v1), (2, .int v2)] []) : K p l e rX11_costOfAll s m args below meth c 3 w 0 0 Q S 12 [(0, .ref v0), (1, .int v1), (2, .int v2)] [.int t1, .int t0] := by
  refine k_icmp_ge (tgt := 56) B dX11_costOfAll_12 (by decide) (fun c => ?_) (fun c => ?_)
  · refine k_sub [1] rfl ?_
    exact kt c
  · exact kf c
theorem bX11_costOfAll_15 (B : Bd p s m args meth c cX11_costOfAll 3 (wsOf yX11_costOfAll cX11_costOfAll 3 (some .int)) RX11 w (some .int) "costOfAll") {v0 : Nat} {v1 : Int32} {v2 : Int32} {x1 : Nat} {x2 : Nat} {post : Nat → St → Prop} {Q : State → Prop} (h1 : kd S v0 = 13) (h2 : gP S 773 v0 = some x1) (h3 : gP S 771 v0 = some x2) (hc : ConR l yJx4a65c_get_915e3 (wsOf yJx4a65c_get_915e3 cJx4a65c_get_915e3 2 (some (.object "java/lang/Object"))) rJx4a65c_get_915e3 w S [.ref x2, .int v2] post) (h4 : kd S x2 = 1) (kk : ∀ (r : Nat) (S' : St), post r S' → K p l e rX11_costOfAll s m args below meth c 3 w 0 0 Q S' 28 [(0, .ref v0), (2, .int v2)] [.ref r, .ref x1, .int v1]) : K p l e rX11_costOfAll s m args below meth c 3 w 0 0 Q S 15 [(0, .ref v0), (1, .int v1), (2, .int v2)] [] := by
  refine k_iload_n B 1 rfl rfl dX11_costOfAll_15 ?_
  refine k_aload_n B 0 rfl rfl dX11_costOfAll_16 ?_
  refine k_getP (f := 773) (r := gP S 773 v0) B 12 5 rfl (by decide) rfl (by decide) rfl rfl (fun w h => in_of (uw_12 w h)) (in_of qfRX11_37) dX11_costOfAll_17 h1 rfl ?_
  rw [h2]; change K _ _ _ _ _ _ _ _ _ _ _ _ _ _ _ _ _ _ (.ref x1 :: _)
  refine k_aload_n B 0 rfl rfl dX11_costOfAll_20 ?_
  refine k_getP (f := 771) (r := gP S 771 v0) B 12 3 rfl (by decide) rfl (by decide) rfl rfl (fun w h => in_of (uw_12 w h)) (in_of qfRX11_26) dX11_costOfAll_21 h1 rfl ?_
  rw [h3]; change K _ _ _ _ _ _ _ _ _ _ _ _ _ _ _ _ _ _ (.ref x2 :: _)
  refine k_iload_n B 2 rfl rfl dX11_costOfAll_24 ?_
  refine callV_R (st := [.ref x1, .int v1]) B [.int v2] (hc) (cwV 1 B.1.2.2.2.2 (gV qlRX11_124 qiJx4a65c_get_915e3 qeJx4a65c_get_915e3 qzRJx4a65c qcJx4a65c_get_915e3) rfl rfl rfl (by decide +kernel) ⟨Nat.le_of_ble_eq_true rfl, Nat.le_of_ble_eq_true rfl⟩) rfl rfl (by decide) h4 (Nat.le_of_ble_eq_true rfl) rfl dX11_costOfAll_25 ⟨Nat.le_of_ble_eq_true rfl, Nat.le_of_ble_eq_true rfl⟩ (fun r S' hp => ?_)
  refine k_sub [0, 2] rfl ?_
  exact kk r S' hp
theorem bX11_costOfAll_28 (B : Bd p s m args meth c cX11_costOfAll 3 (wsOf yX11_costOfAll cX11_costOfAll 3 (some .int)) RX11 w (some .int) "costOfAll") {v0 : Nat} {v2 : Int32} {t0 : Int32} {t1 : Nat} {t2 : Nat} {x1 : Nat} {post : Nat → St → Prop} {Q : State → Prop} (h1 : kd S t2 = 12) (h2 : kd S v0 = 13) (h3 : gP S 771 v0 = some x1) (hc : ConR l yJx4a65c_get_915e3 (wsOf yJx4a65c_get_915e3 cJx4a65c_get_915e3 2 (some (.object "java/lang/Object"))) rJx4a65c_get_915e3 w S [.ref x1, .int v2] post) (h4 : kd S x1 = 1) (kk : ∀ (r : Nat) (S' : St), post r S' → K p l e rX11_costOfAll s m args below meth c 3 w 0 0 Q S' 39 [(0, .ref v0), (2, .int v2)] [.ref r, .ref t2, .ref t1, .int t0]) : K p l e rX11_costOfAll s m args below meth c 3 w 0 0 Q S 28 [(0, .ref v0), (2, .int v2)] [.ref t2, .ref t1, .int t0] := by
  refine k_cast B 11 rfl (by decide) (in_of qkRX11_139) dX11_costOfAll_28 h1 ?_
  refine k_aload_n B 0 rfl rfl dX11_costOfAll_31 ?_
  refine k_getP (f := 771) (r := gP S 771 v0) B 12 3 rfl (by decide) rfl (by decide) rfl rfl (fun w h => in_of (uw_12 w h)) (in_of qfRX11_26) dX11_costOfAll_32 h2 rfl ?_
  rw [h3]; change K _ _ _ _ _ _ _ _ _ _ _ _ _ _ _ _ _ _ (.ref x1 :: _)
  refine k_iload_n B 1 rfl rfl dX11_costOfAll_35 ?_
  refine callV_R (st := [.ref t2, .ref t1, .int t0]) B [.int v2] (hc) (cwV 1 B.1.2.2.2.2 (gV qlRX11_124 qiJx4a65c_get_915e3 qeJx4a65c_get_915e3 qzRJx4a65c qcJx4a65c_get_915e3) rfl rfl rfl (by decide +kernel) ⟨Nat.le_of_ble_eq_true rfl, Nat.le_of_ble_eq_true rfl⟩) rfl rfl (by decide) h4 (Nat.le_of_ble_eq_true rfl) rfl dX11_costOfAll_36 ⟨Nat.le_of_ble_eq_true rfl, Nat.le_of_ble_eq_true rfl⟩ (fun r S' hp => ?_)
  exact kk r S' hp
theorem bX11_costOfAll_39 (B : Bd p s m args meth c cX11_costOfAll 3 (wsOf yX11_costOfAll cX11_costOfAll 3 (some .int)) RX11 w (some .int) "costOfAll") {v0 : Nat} {v2 : Int32} {t0 : Int32} {t1 : Nat} {t2 : Nat} {t3 : Nat} {x1 : Nat} {post : Int32 → St → Prop} {Q : State → Prop} (h1 : kd S t3 = 12) (h2 : gP S 708 t3 = some x1) (hc : ConI l yX7_follow (wsOf yX7_follow cX7_follow 6 (some .int)) rX7_follow w S [.ref t1, .ref t2, .ref x1] post) (h3 : kd S t1 = 9) (kk : ∀ (r : Int32) (S' : St), post r S' → K p l e rX11_costOfAll s m args below meth c 3 w 0 0 Q S' 48 [(0, .ref v0), (2, .int v2)] [.int r, .int t0]) : K p l e rX11_costOfAll s m args below meth c 3 w 0 0 Q S 39 [(0, .ref v0), (2, .int v2)] [.ref t3, .ref t2, .ref t1, .int t0] := by
  refine k_cast B 11 rfl (by decide) (in_of qkRX11_139) dX11_costOfAll_39 h1 ?_
  refine k_getP (f := 708) (r := gP S 708 t3) B 11 4 rfl (by decide) rfl (by decide) rfl rfl (fun w h => in_of (uw_11 w h)) (in_of qfRX11_187) dX11_costOfAll_42 h1 rfl ?_
  rw [h2]; change K _ _ _ _ _ _ _ _ _ _ _ _ _ _ _ _ _ _ (.ref x1 :: _)
  refine callV_I (st := [.int t0]) B [.ref t2, .ref x1] (hc) (cwV 2 B.1.2.2.2.2 (gV qlRX11_190 qiX7_follow qeX7_follow qzRX7 qcX7_follow) rfl rfl rfl (by decide +kernel) ⟨Nat.le_of_ble_eq_true rfl, Nat.le_of_ble_eq_true rfl⟩) rfl rfl (by decide) h3 (Nat.le_of_ble_eq_true rfl) rfl dX11_costOfAll_45 ⟨Nat.le_of_ble_eq_true rfl, Nat.le_of_ble_eq_true rfl⟩ (fun r S' hp => ?_)
  exact kk r S' hp
theorem bX11_costOfAll_48 (B : Bd p s m args meth c cX11_costOfAll 3 (wsOf yX11_costOfAll cX11_costOfAll 3 (some .int)) RX11 w (some .int) "costOfAll") {v0 : Nat} {v2 : Int32} {t0 : Int32} {t1 : Int32} {Q : State → Prop}  (kk : K p l e rX11_costOfAll s m args below meth c 3 w 0 0 Q S 4 [(0, .ref v0), (1, .int (t0 + t1)), (2, .int (v2 + 1))] []) : K p l e rX11_costOfAll s m args below meth c 3 w 0 0 Q S 48 [(0, .ref v0), (2, .int v2)] [.int t1, .int t0] := by
  refine k_iadd B dX11_costOfAll_48 ?_
  refine k_istore_n (lst' := [(1, .int (t0 + t1)), (0, .ref v0), (2, .int v2)]) B rfl (by decide) rfl dX11_costOfAll_49 ?_
  refine k_iinc (v := v2 + 1) (lst' := [(2, .int (v2 + 1)), (1, .int (t0 + t1)), (0, .ref v0)]) B 2 rfl rfl (by decide) rfl dX11_costOfAll_50 ?_
  refine k_goto (tgt := 4) B dX11_costOfAll_53 (by decide) ?_
  refine k_sub [2, 1, 0] rfl ?_
  exact kk
theorem bX11_costOfAll_56 (B : Bd p s m args meth c cX11_costOfAll 3 (wsOf yX11_costOfAll cX11_costOfAll 3 (some .int)) RX11 w (some .int) "costOfAll") {v1 : Int32} {post : Int32 → St → Prop}  (hq : post v1 S) : K p l e rX11_costOfAll s m args below meth c 3 w 0 0 (MQ below (va_Qi post (fun S' t => Hd w S' t.heap) (wA w)) args s 0 0 (wA w)) S 56 [(1, .int v1)] [] := by
  refine k_iload_n B 0 rfl rfl dX11_costOfAll_56 ?_
  exact ret_I B rfl dX11_costOfAll_57 (hq)
theorem bX11_isLoose_0 (B : Bd p s m args meth c cX11_isLoose 1 (wsOf yX11_isLoose cX11_isLoose 1 (some .boolean)) RX11 w (some .boolean) "isLoose") {v0 : Nat} {Q : State → Prop} (h1 : kd S v0 = 5) (kt : ¬ (gI S 265 v0) = 0 → K p l e rX11_isLoose s m args below meth c 1 w 0 0 Q S 18 [] []) (kf : (gI S 265 v0) = 0 → K p l e rX11_isLoose s m args below meth c 1 w 0 0 Q S 7 [(0, .ref v0)] []) : K p l e rX11_isLoose s m args below meth c 1 w 0 0 Q S 0 [(0, .ref v0)] [] := by
  refine k_aload_n B 0 rfl rfl dX11_isLoose_0 ?_
  refine k_getI (f := 265) (v := gI S 265 v0) B 4 9 rfl (by decide) rfl (by decide) rfl rfl (fun w h => in_of (uw_4 w h)) (in_of qfRX11_358) dX11_isLoose_1 h1 rfl ?_
  refine k_if_ne (tgt := 18) B dX11_isLoose_4 (by decide) (fun c => ?_) (fun c => ?_)
  · refine k_sub [] rfl ?_
    exact kt c
  · exact kf c
theorem bX11_isLoose_7 (B : Bd p s m args meth c cX11_isLoose 1 (wsOf yX11_isLoose cX11_isLoose 1 (some .boolean)) RX11 w (some .boolean) "isLoose") {v0 : Nat} {Q : State → Prop} (h1 : kd S v0 = 5) (kt : ∀ x, gP S 263 v0 = some x → K p l e rX11_isLoose s m args below meth c 1 w 0 0 Q S 18 [] []) (kf : gP S 263 v0 = none → K p l e rX11_isLoose s m args below meth c 1 w 0 0 Q S 14 [] []) : K p l e rX11_isLoose s m args below meth c 1 w 0 0 Q S 7 [(0, .ref v0)] [] := by
  refine k_aload_n B 0 rfl rfl dX11_isLoose_7 ?_
  refine k_getP (f := 263) (r := gP S 263 v0) B 4 7 rfl (by decide) rfl (by decide) rfl rfl (fun w h => in_of (uw_4 w h)) (in_of qfRX11_181) dX11_isLoose_8 h1 rfl ?_
  refine k_ifnonnull (r := gP S 263 v0) (tgt := 18) B dX11_isLoose_11 (by decide) (fun x c => ?_) (fun c => ?_)
  · refine k_sub [] rfl ?_
    exact kt x c
  · refine k_sub [] rfl ?_
    exact kf c
theorem bX11_isLoose_14 (B : Bd p s m args meth c cX11_isLoose 1 (wsOf yX11_isLoose cX11_isLoose 1 (some .boolean)) RX11 w (some .boolean) "isLoose") {Q : State → Prop}  (kk : K p l e rX11_isLoose s m args below meth c 1 w 0 0 Q S 19 [] [.int 1]) : K p l e rX11_isLoose s m args below meth c 1 w 0 0 Q S 14 [] [] := by
  refine k_iconst (v := 1) B (by decide) dX11_isLoose_14 ?_
  refine k_goto (tgt := 19) B dX11_isLoose_15 (by decide) ?_
  exact kk
theorem bX11_isLoose_18 (B : Bd p s m args meth c cX11_isLoose 1 (wsOf yX11_isLoose cX11_isLoose 1 (some .boolean)) RX11 w (some .boolean) "isLoose") {Q : State → Prop}  (kk : K p l e rX11_isLoose s m args below meth c 1 w 0 0 Q S 19 [] [.int 0]) : K p l e rX11_isLoose s m args below meth c 1 w 0 0 Q S 18 [] [] := by
  refine k_iconst (v := 0) B (by decide) dX11_isLoose_18 ?_
  exact kk
theorem bX11_isLoose_19 (B : Bd p s m args meth c cX11_isLoose 1 (wsOf yX11_isLoose cX11_isLoose 1 (some .boolean)) RX11 w (some .boolean) "isLoose") {t0 : Int32} {post : Int32 → St → Prop}  (hv : t0 = 0 ∨ t0 = 1) (hq : post t0 S) : K p l e rX11_isLoose s m args below meth c 1 w 0 0 (MQ below (va_Qi post (fun S' t => Hd w S' t.heap) (wA w)) args s 0 0 (wA w)) S 19 [] [.int t0] := by
  exact ret_Z B rfl dX11_isLoose_19 (hv) (hq)
theorem bX11_putIn_0 (B : Bd p s m args meth c cX11_putIn 3 (wsOf yX11_putIn cX11_putIn 3 none) RX11 w none "putIn") {v0 : Nat} {v1 : Nat} {v2 : Int32} {x1 : Nat} {post : St → Prop} {Q : State → Prop} (h1 : kd S v1 = 12) (h2 : gP S 708 v1 = some x1) (hc : ConV l yX6_insert (wsOf yX6_insert cX6_insert 4 none) rX6_insert w S [.ref x1, .ref v0, .int v2] post) (h3 : kd S x1 = 8) (kk : ∀ (S' : St), post S' → K p l e rX11_putIn s m args below meth c 3 w 0 0 Q S' 9 [(0, .ref v0), (1, .ref v1)] []) : K p l e rX11_putIn s m args below meth c 3 w 0 0 Q S 0 [(0, .ref v0), (1, .ref v1), (2, .int v2)] [] := by
  refine k_aload_n B 1 rfl rfl dX11_putIn_0 ?_
  refine k_getP (f := 708) (r := gP S 708 v1) B 11 4 rfl (by decide) rfl (by decide) rfl rfl (fun w h => in_of (uw_11 w h)) (in_of qfRX11_187) dX11_putIn_1 h1 rfl ?_
  rw [h2]; change K _ _ _ _ _ _ _ _ _ _ _ _ _ _ _ _ _ _ (.ref x1 :: _)
  refine k_aload_n B 0 rfl rfl dX11_putIn_4 ?_
  refine k_iload_n B 2 rfl rfl dX11_putIn_5 ?_
  refine callV_V (st := []) B [.ref v0, .int v2] (hc) (cwV 2 B.1.2.2.2.2 (gV qlRX11_398 qiX6_insert qeX6_insert qzRX6 qcX6_insert) rfl rfl rfl (by decide +kernel) ⟨Nat.le_of_ble_eq_true rfl, Nat.le_of_ble_eq_true rfl⟩) rfl rfl (by decide) h3 (Nat.le_of_ble_eq_true rfl) rfl dX11_putIn_6 ⟨Nat.le_of_ble_eq_true rfl, Nat.le_of_ble_eq_true rfl⟩ (fun S' hp => ?_)
  refine k_sub [0, 1] rfl ?_
  exact kk S' hp
theorem bX11_putIn_9 (B : Bd p s m args meth c cX11_putIn 3 (wsOf yX11_putIn cX11_putIn 3 none) RX11 w none "putIn") {v0 : Nat} {v1 : Nat} {post : St → Prop} (h1 : kd S v0 = 5) (hq : post (sP S 263 v0 (some v1))) : K p l e rX11_putIn s m args below meth c 3 w 0 0 (MQ below (va_Qv post (fun S' t => Hd w S' t.heap) (wA w)) args s 0 0 (wA w)) S 9 [(0, .ref v0), (1, .ref v1)] [] := by
  refine k_aload_n B 0 rfl rfl dX11_putIn_9 ?_
  refine k_aload_n B 1 rfl rfl dX11_putIn_10 ?_
  refine k_putP (f := 263) (v := some v1) B 4 7 rfl (by decide) rfl (by decide) rfl rfl (fun w h => in_of (uw_4 w h)) (in_of qfRX11_181) tyX3 tyX3_ok nmX3 rfl (tyX3_ok 7 (by decide)) rfl rfl dX11_putIn_11 h1 ?_
  exact ret_V B rfl dX11_putIn_14 (hq)
theorem bX11_putInAtSpot_0 (B : Bd p s m args meth c cX11_putInAtSpot 3 (wsOf yX11_putInAtSpot cX11_putInAtSpot 3 none) RX11 w none "putInAtSpot") {v0 : Nat} {v1 : Nat} {v2 : Int32} {x1 : Nat} {post : Nat → St → Prop} {Q : State → Prop} (h1 : kd S v0 = 13) (h2 : gP S 771 v0 = some x1) (hc : ConR l yJx4a65c_get_915e3 (wsOf yJx4a65c_get_915e3 cJx4a65c_get_915e3 2 (some (.object "java/lang/Object"))) rJx4a65c_get_915e3 w S [.ref x1, .int (v2 / 16)] post) (h3 : kd S x1 = 1) (kk : ∀ (r : Nat) (S' : St), post r S' → K p l e rX11_putInAtSpot s m args below meth c 3 w 0 0 Q S' 12 [(2, .int v2)] [.ref r, .ref v1]) : K p l e rX11_putInAtSpot s m args below meth c 3 w 0 0 Q S 0 [(0, .ref v0), (1, .ref v1), (2, .int v2)] [] := by
  refine k_aload_n B 1 rfl rfl dX11_putInAtSpot_0 ?_
  refine k_aload_n B 0 rfl rfl dX11_putInAtSpot_1 ?_
  refine k_getP (f := 771) (r := gP S 771 v0) B 12 3 rfl (by decide) rfl (by decide) rfl rfl (fun w h => in_of (uw_12 w h)) (in_of qfRX11_26) dX11_putInAtSpot_2 h1 rfl ?_
  rw [h2]; change K _ _ _ _ _ _ _ _ _ _ _ _ _ _ _ _ _ _ (.ref x1 :: _)
  refine k_iload_n B 2 rfl rfl dX11_putInAtSpot_5 ?_
  refine k_bipush (v := 16) B (by decide) dX11_putInAtSpot_6 ?_
  refine k_idiv B (by decide) dX11_putInAtSpot_8 ?_
  refine callV_R (st := [.ref v1]) B [.int (v2 / 16)] (hc) (cwV 1 B.1.2.2.2.2 (gV qlRX11_124 qiJx4a65c_get_915e3 qeJx4a65c_get_915e3 qzRJx4a65c qcJx4a65c_get_915e3) rfl rfl rfl (by decide +kernel) ⟨Nat.le_of_ble_eq_true rfl, Nat.le_of_ble_eq_true rfl⟩) rfl rfl (by decide) h3 (Nat.le_of_ble_eq_true rfl) rfl dX11_putInAtSpot_9 ⟨Nat.le_of_ble_eq_true rfl, Nat.le_of_ble_eq_true rfl⟩ (fun r S' hp => ?_)
  refine k_sub [2] rfl ?_
  exact kk r S' hp
theorem bX11_putInAtSpot_12 (B : Bd p s m args meth c cX11_putInAtSpot 3 (wsOf yX11_putInAtSpot cX11_putInAtSpot 3 none) RX11 w none "putInAtSpot") {v2 : Int32} {t0 : Nat} {t1 : Nat} {post : St → Prop} {Q : State → Prop} (h1 : kd S t1 = 12) (hc : ConV l yX11_putIn (wsOf yX11_putIn cX11_putIn 3 none) rX11_putIn w S [.ref t0, .ref t1, .int (v2 - v2 / 16 * 16)] post) (kk : ∀ (S' : St), post S' → K p l e rX11_putInAtSpot s m args below meth c 3 w 0 0 Q S' 22 [] []) : K p l e rX11_putInAtSpot s m args below meth c 3 w 0 0 Q S 12 [(2, .int v2)] [.ref t1, .ref t0] := by
  refine k_cast B 11 rfl (by decide) (in_of qkRX11_139) dX11_putInAtSpot_12 h1 ?_
  refine k_iload_n B 0 rfl rfl dX11_putInAtSpot_15 ?_
  refine k_bipush (v := 16) B (by decide) dX11_putInAtSpot_16 ?_
  refine k_irem B (by decide) dX11_putInAtSpot_18 ?_
  refine callS_V (st := []) B [.ref t0, .ref t1, .int (v2 - v2 / 16 * 16)] (hc) (va_cwS 3 B.1.2.2.2.2 (gS qlRX11_177 qsX11_putIn qzRX11 qcX11_putIn) rfl rfl rfl (by decide +kernel) ⟨Nat.le_of_ble_eq_true rfl, Nat.le_of_ble_eq_true rfl⟩) rfl (Nat.le_of_ble_eq_true rfl) rfl dX11_putInAtSpot_19 ⟨Nat.le_of_ble_eq_true rfl, Nat.le_of_ble_eq_true rfl⟩ (fun S' hp => ?_)
  refine k_sub [] rfl ?_
  exact kk S' hp
theorem bX11_putInAtSpot_22 (B : Bd p s m args meth c cX11_putInAtSpot 3 (wsOf yX11_putInAtSpot cX11_putInAtSpot 3 none) RX11 w none "putInAtSpot") {post : St → Prop}  (hq : post S) : K p l e rX11_putInAtSpot s m args below meth c 3 w 0 0 (MQ below (va_Qv post (fun S' t => Hd w S' t.heap) (wA w)) args s 0 0 (wA w)) S 22 [] [] := by
  exact ret_V B rfl dX11_putInAtSpot_22 (hq)
theorem bX11_takeOut_0 (B : Bd p s m args meth c cX11_takeOut 1 (wsOf yX11_takeOut cX11_takeOut 1 none) RX11 w none "takeOut") {v0 : Nat} {x1 : Nat} {x2 : Nat} {post : St → Prop} {Q : State → Prop} (h1 : kd S v0 = 5) (h2 : gP S 263 v0 = some x1) (h3 : kd S x1 = 12) (h4 : gP S 708 x1 = some x2) (hc : ConV l yX6_remove (wsOf yX6_remove cX6_remove 4 none) rX6_remove w S [.ref x2, .ref v0] post) (h5 : kd S x2 = 8) (kk : ∀ (S' : St), post S' → K p l e rX11_takeOut s m args below meth c 1 w 0 0 Q S' 11 [(0, .ref v0)] []) : K p l e rX11_takeOut s m args below meth c 1 w 0 0 Q S 0 [(0, .ref v0)] [] := by
  refine k_aload_n B 0 rfl rfl dX11_takeOut_0 ?_
  refine k_getP (f := 263) (r := gP S 263 v0) B 4 7 rfl (by decide) rfl (by decide) rfl rfl (fun w h => in_of (uw_4 w h)) (in_of qfRX11_181) dX11_takeOut_1 h1 rfl ?_
  rw [h2]; change K _ _ _ _ _ _ _ _ _ _ _ _ _ _ _ _ _ _ (.ref x1 :: _)
  refine k_getP (f := 708) (r := gP S 708 x1) B 11 4 rfl (by decide) rfl (by decide) rfl rfl (fun w h => in_of (uw_11 w h)) (in_of qfRX11_187) dX11_takeOut_4 h3 rfl ?_
  rw [h4]; change K _ _ _ _ _ _ _ _ _ _ _ _ _ _ _ _ _ _ (.ref x2 :: _)
  refine k_aload_n B 0 rfl rfl dX11_takeOut_7 ?_
  refine callV_V (st := []) B [.ref v0] (hc) (cwV 1 B.1.2.2.2.2 (gV qlRX11_401 qiX6_remove qeX6_remove qzRX6 qcX6_remove) rfl rfl rfl (by decide +kernel) ⟨Nat.le_of_ble_eq_true rfl, Nat.le_of_ble_eq_true rfl⟩) rfl rfl (by decide) h5 (Nat.le_of_ble_eq_true rfl) rfl dX11_takeOut_8 ⟨Nat.le_of_ble_eq_true rfl, Nat.le_of_ble_eq_true rfl⟩ (fun S' hp => ?_)
  exact kk S' hp
theorem bX11_takeOut_11 (B : Bd p s m args meth c cX11_takeOut 1 (wsOf yX11_takeOut cX11_takeOut 1 none) RX11 w none "takeOut") {v0 : Nat} {post : St → Prop} (h1 : kd S v0 = 5) (hq : post (sP S 263 v0 none)) : K p l e rX11_takeOut s m args below meth c 1 w 0 0 (MQ below (va_Qv post (fun S' t => Hd w S' t.heap) (wA w)) args s 0 0 (wA w)) S 11 [(0, .ref v0)] [] := by
  refine k_aload_n B 0 rfl rfl dX11_takeOut_11 ?_
  refine k_null B dX11_takeOut_12 ?_
  refine k_putP (f := 263) (v := none) B 4 7 rfl (by decide) rfl (by decide) rfl rfl (fun w h => in_of (uw_4 w h)) (in_of qfRX11_181) tyX3 tyX3_ok nmX3 rfl (tyX3_ok 7 (by decide)) rfl rfl dX11_takeOut_13 h1 ?_
  exact ret_V B rfl dX11_takeOut_16 (hq)
theorem bX11_addedCost_0 (B : Bd p s m args meth c cX11_addedCost 4 (wsOf yX11_addedCost cX11_addedCost 4 (some .int)) RX11 w (some .int) "addedCost") {v0 : Nat} {v1 : Nat} {v2 : Nat} {v3 : Int32} {x1 : Nat} {x2 : Nat} {post : St → Prop} {Q : State → Prop} (h1 : kd S v0 = 13) (h2 : gP S 776 v0 = some x1) (h3 : kd S v2 = 12) (h4 : gP S 708 v2 = some x2) (hc : ConV l yX6_copy (wsOf yX6_copy cX6_copy 3 none) rX6_copy w S [.ref x1, .ref x2] post) (h5 : kd S x1 = 8) (kk : ∀ (S' : St), post S' → K p l e rX11_addedCost s m args below meth c 4 w 0 0 Q S' 11 [(0, .ref v0), (1, .ref v1), (2, .ref v2), (3, .int v3)] []) : K p l e rX11_addedCost s m args below meth c 4 w 0 0 Q S 0 [(0, .ref v0), (1, .ref v1), (2, .ref v2), (3, .int v3)] [] := by
  refine k_aload_n B 0 rfl rfl dX11_addedCost_0 ?_
  refine k_getP (f := 776) (r := gP S 776 v0) B 12 8 rfl (by decide) rfl (by decide) rfl rfl (fun w h => in_of (uw_12 w h)) (in_of qfRX11_60) dX11_addedCost_1 h1 rfl ?_
  rw [h2]; change K _ _ _ _ _ _ _ _ _ _ _ _ _ _ _ _ _ _ (.ref x1 :: _)
  refine k_aload_n B 2 rfl rfl dX11_addedCost_4 ?_
  refine k_getP (f := 708) (r := gP S 708 v2) B 11 4 rfl (by decide) rfl (by decide) rfl rfl (fun w h => in_of (uw_11 w h)) (in_of qfRX11_187) dX11_addedCost_5 h3 rfl ?_
  rw [h4]; change K _ _ _ _ _ _ _ _ _ _ _ _ _ _ _ _ _ _ (.ref x2 :: _)
  refine callV_V (st := []) B [.ref x2] (hc) (cwV 1 B.1.2.2.2.2 (gV qlRX11_248 qiX6_copy qeX6_copy qzRX6 qcX6_copy) rfl rfl rfl (by decide +kernel) ⟨Nat.le_of_ble_eq_true rfl, Nat.le_of_ble_eq_true rfl⟩) rfl rfl (by decide) h5 (Nat.le_of_ble_eq_true rfl) rfl dX11_addedCost_8 ⟨Nat.le_of_ble_eq_true rfl, Nat.le_of_ble_eq_true rfl⟩ (fun S' hp => ?_)
  exact kk S' hp
theorem bX11_addedCost_11 (B : Bd p s m args meth c cX11_addedCost 4 (wsOf yX11_addedCost cX11_addedCost 4 (some .int)) RX11 w (some .int) "addedCost") {v0 : Nat} {v1 : Nat} {v2 : Nat} {v3 : Int32} {x1 : Nat} {post : St → Prop} {Q : State → Prop} (h1 : kd S v0 = 13) (h2 : gP S 776 v0 = some x1) (hc : ConV l yX6_insert (wsOf yX6_insert cX6_insert 4 none) rX6_insert w S [.ref x1, .ref v1, .int v3] post) (h3 : kd S x1 = 8) (kk : ∀ (S' : St), post S' → K p l e rX11_addedCost s m args below meth c 4 w 0 0 Q S' 20 [(0, .ref v0), (2, .ref v2)] []) : K p l e rX11_addedCost s m args below meth c 4 w 0 0 Q S 11 [(0, .ref v0), (1, .ref v1), (2, .ref v2), (3, .int v3)] [] := by
  refine k_aload_n B 0 rfl rfl dX11_addedCost_11 ?_
  refine k_getP (f := 776) (r := gP S 776 v0) B 12 8 rfl (by decide) rfl (by decide) rfl rfl (fun w h => in_of (uw_12 w h)) (in_of qfRX11_60) dX11_addedCost_12 h1 rfl ?_
  rw [h2]; change K _ _ _ _ _ _ _ _ _ _ _ _ _ _ _ _ _ _ (.ref x1 :: _)
  refine k_aload_n B 1 rfl rfl dX11_addedCost_15 ?_
  refine k_iload_n B 3 rfl rfl dX11_addedCost_16 ?_
  refine callV_V (st := []) B [.ref v1, .int v3] (hc) (cwV 2 B.1.2.2.2.2 (gV qlRX11_398 qiX6_insert qeX6_insert qzRX6 qcX6_insert) rfl rfl rfl (by decide +kernel) ⟨Nat.le_of_ble_eq_true rfl, Nat.le_of_ble_eq_true rfl⟩) rfl rfl (by decide) h3 (Nat.le_of_ble_eq_true rfl) rfl dX11_addedCost_17 ⟨Nat.le_of_ble_eq_true rfl, Nat.le_of_ble_eq_true rfl⟩ (fun S' hp => ?_)
  refine k_sub [0, 2] rfl ?_
  exact kk S' hp
theorem bX11_addedCost_20 (B : Bd p s m args meth c cX11_addedCost 4 (wsOf yX11_addedCost cX11_addedCost 4 (some .int)) RX11 w (some .int) "addedCost") {v0 : Nat} {v2 : Nat} {x1 : Nat} {post : Int32 → St → Prop} {Q : State → Prop} (h1 : kd S v0 = 13) (h2 : gP S 776 v0 = some x1) (h3 : kd S v2 = 12) (hc : ConI l yX6_fits (wsOf yX6_fits cX6_fits 2 (some .boolean)) rX6_fits w S [.ref x1, .int (gI S 705 v2)] post) (h4 : kd S x1 = 8) (kk : ∀ (r : Int32) (S' : St), post r S' → K p l e rX11_addedCost s m args below meth c 4 w 0 0 Q S' 31 [(0, .ref v0), (2, .ref v2)] [.int r]) : K p l e rX11_addedCost s m args below meth c 4 w 0 0 Q S 20 [(0, .ref v0), (2, .ref v2)] [] := by
  refine k_aload_n B 0 rfl rfl dX11_addedCost_20 ?_
  refine k_getP (f := 776) (r := gP S 776 v0) B 12 8 rfl (by decide) rfl (by decide) rfl rfl (fun w h => in_of (uw_12 w h)) (in_of qfRX11_60) dX11_addedCost_21 h1 rfl ?_
  rw [h2]; change K _ _ _ _ _ _ _ _ _ _ _ _ _ _ _ _ _ _ (.ref x1 :: _)
  refine k_aload_n B 1 rfl rfl dX11_addedCost_24 ?_
  refine k_getI (f := 705) (v := gI S 705 v2) B 11 1 rfl (by decide) rfl (by decide) rfl rfl (fun w h => in_of (uw_11 w h)) (in_of qfRX11_255) dX11_addedCost_25 h3 rfl ?_
  refine callV_I (st := []) B [.int (gI S 705 v2)] (hc) (cwV 1 B.1.2.2.2.2 (gV qlRX11_258 qiX6_fits qeX6_fits qzRX6 qcX6_fits) rfl rfl rfl (by decide +kernel) ⟨Nat.le_of_ble_eq_true rfl, Nat.le_of_ble_eq_true rfl⟩) rfl rfl (by decide) h4 (Nat.le_of_ble_eq_true rfl) rfl dX11_addedCost_28 ⟨Nat.le_of_ble_eq_true rfl, Nat.le_of_ble_eq_true rfl⟩ (fun r S' hp => ?_)
  exact kk r S' hp
theorem bX11_addedCost_31 (B : Bd p s m args meth c cX11_addedCost 4 (wsOf yX11_addedCost cX11_addedCost 4 (some .int)) RX11 w (some .int) "addedCost") {v0 : Nat} {v2 : Nat} {t0 : Int32} {Q : State → Prop}  (kt : ¬ t0 = 0 → K p l e rX11_addedCost s m args below meth c 4 w 0 0 Q S 37 [(0, .ref v0), (2, .ref v2)] []) (kf : t0 = 0 → K p l e rX11_addedCost s m args below meth c 4 w 0 0 Q S 34 [] []) : K p l e rX11_addedCost s m args below meth c 4 w 0 0 Q S 31 [(0, .ref v0), (2, .ref v2)] [.int t0] := by
  refine k_if_ne (tgt := 37) B dX11_addedCost_31 (by decide) (fun c => ?_) (fun c => ?_)
  · exact kt c
  · refine k_sub [] rfl ?_
    exact kf c
theorem bX11_addedCost_34 (B : Bd p s m args meth c cX11_addedCost 4 (wsOf yX11_addedCost cX11_addedCost 4 (some .int)) RX11 w (some .int) "addedCost") {post : Int32 → St → Prop}  (hq : post 1000000 S) : K p l e rX11_addedCost s m args below meth c 4 w 0 0 (MQ below (va_Qi post (fun S' t => Hd w S' t.heap) (wA w)) args s 0 0 (wA w)) S 34 [] [] := by
  refine k_ldc (v := 1000000) B (in_of qtRX11_171) dX11_addedCost_34 ?_
  exact ret_I B rfl dX11_addedCost_36 (hq)
theorem bX11_addedCost_37 (B : Bd p s m args meth c cX11_addedCost 4 (wsOf yX11_addedCost cX11_addedCost 4 (some .int)) RX11 w (some .int) "addedCost") {v0 : Nat} {v2 : Nat} {x1 : Nat} {x2 : Nat} {post : Int32 → St → Prop} {Q : State → Prop} (h1 : kd S v0 = 13) (h2 : gP S 773 v0 = some x1) (h3 : gP S 776 v0 = some x2) (hc : ConI l yX7_follow (wsOf yX7_follow cX7_follow 6 (some .int)) rX7_follow w S [.ref x1, .ref v2, .ref x2] post) (h4 : kd S x1 = 9) (kk : ∀ (r : Int32) (S' : St), post r S' → K p l e rX11_addedCost s m args below meth c 4 w 0 0 Q S' 49 [(0, .ref v0), (2, .ref v2)] [.int r]) : K p l e rX11_addedCost s m args below meth c 4 w 0 0 Q S 37 [(0, .ref v0), (2, .ref v2)] [] := by
  refine k_aload_n B 0 rfl rfl dX11_addedCost_37 ?_
  refine k_getP (f := 773) (r := gP S 773 v0) B 12 5 rfl (by decide) rfl (by decide) rfl rfl (fun w h => in_of (uw_12 w h)) (in_of qfRX11_37) dX11_addedCost_38 h1 rfl ?_
  rw [h2]; change K _ _ _ _ _ _ _ _ _ _ _ _ _ _ _ _ _ _ (.ref x1 :: _)
  refine k_aload_n B 1 rfl rfl dX11_addedCost_41 ?_
  refine k_aload_n B 0 rfl rfl dX11_addedCost_42 ?_
  refine k_getP (f := 776) (r := gP S 776 v0) B 12 8 rfl (by decide) rfl (by decide) rfl rfl (fun w h => in_of (uw_12 w h)) (in_of qfRX11_60) dX11_addedCost_43 h1 rfl ?_
  rw [h3]; change K _ _ _ _ _ _ _ _ _ _ _ _ _ _ _ _ _ _ (.ref x2 :: _)
  refine callV_I (st := []) B [.ref v2, .ref x2] (hc) (cwV 2 B.1.2.2.2.2 (gV qlRX11_190 qiX7_follow qeX7_follow qzRX7 qcX7_follow) rfl rfl rfl (by decide +kernel) ⟨Nat.le_of_ble_eq_true rfl, Nat.le_of_ble_eq_true rfl⟩) rfl rfl (by decide) h4 (Nat.le_of_ble_eq_true rfl) rfl dX11_addedCost_46 ⟨Nat.le_of_ble_eq_true rfl, Nat.le_of_ble_eq_true rfl⟩ (fun r S' hp => ?_)
  exact kk r S' hp
theorem bX11_addedCost_49 (B : Bd p s m args meth c cX11_addedCost 4 (wsOf yX11_addedCost cX11_addedCost 4 (some .int)) RX11 w (some .int) "addedCost") {v0 : Nat} {v2 : Nat} {t0 : Int32} {x1 : Nat} {x2 : Nat} {post : Int32 → St → Prop} {Q : State → Prop} (h1 : kd S v0 = 13) (h2 : gP S 773 v0 = some x1) (h3 : kd S v2 = 12) (h4 : gP S 708 v2 = some x2) (hc : ConI l yX7_follow (wsOf yX7_follow cX7_follow 6 (some .int)) rX7_follow w S [.ref x1, .ref v2, .ref x2] post) (h5 : kd S x1 = 9) (kk : ∀ (r : Int32) (S' : St), post r S' → K p l e rX11_addedCost s m args below meth c 4 w 0 0 Q S' 61 [] [.int r, .int t0]) : K p l e rX11_addedCost s m args below meth c 4 w 0 0 Q S 49 [(0, .ref v0), (2, .ref v2)] [.int t0] := by
  refine k_aload_n B 0 rfl rfl dX11_addedCost_49 ?_
  refine k_getP (f := 773) (r := gP S 773 v0) B 12 5 rfl (by decide) rfl (by decide) rfl rfl (fun w h => in_of (uw_12 w h)) (in_of qfRX11_37) dX11_addedCost_50 h1 rfl ?_
  rw [h2]; change K _ _ _ _ _ _ _ _ _ _ _ _ _ _ _ _ _ _ (.ref x1 :: _)
  refine k_aload_n B 1 rfl rfl dX11_addedCost_53 ?_
  refine k_aload_n B 1 rfl rfl dX11_addedCost_54 ?_
  refine k_getP (f := 708) (r := gP S 708 v2) B 11 4 rfl (by decide) rfl (by decide) rfl rfl (fun w h => in_of (uw_11 w h)) (in_of qfRX11_187) dX11_addedCost_55 h3 rfl ?_
  rw [h4]; change K _ _ _ _ _ _ _ _ _ _ _ _ _ _ _ _ _ _ (.ref x2 :: _)
  refine callV_I (st := [.int t0]) B [.ref v2, .ref x2] (hc) (cwV 2 B.1.2.2.2.2 (gV qlRX11_190 qiX7_follow qeX7_follow qzRX7 qcX7_follow) rfl rfl rfl (by decide +kernel) ⟨Nat.le_of_ble_eq_true rfl, Nat.le_of_ble_eq_true rfl⟩) rfl rfl (by decide) h5 (Nat.le_of_ble_eq_true rfl) rfl dX11_addedCost_58 ⟨Nat.le_of_ble_eq_true rfl, Nat.le_of_ble_eq_true rfl⟩ (fun r S' hp => ?_)
  refine k_sub [] rfl ?_
  exact kk r S' hp
theorem bX11_addedCost_61 (B : Bd p s m args meth c cX11_addedCost 4 (wsOf yX11_addedCost cX11_addedCost 4 (some .int)) RX11 w (some .int) "addedCost") {t0 : Int32} {t1 : Int32} {post : Int32 → St → Prop}  (hq : post (t0 - t1) S) : K p l e rX11_addedCost s m args below meth c 4 w 0 0 (MQ below (va_Qi post (fun S' t => Hd w S' t.heap) (wA w)) args s 0 0 (wA w)) S 61 [] [.int t1, .int t0] := by
  refine k_isub B dX11_addedCost_61 ?_
  exact ret_I B rfl dX11_addedCost_62 (hq)
theorem bX11_weighPuttingIn_0 (B : Bd p s m args meth c cX11_weighPuttingIn 3 (wsOf yX11_weighPuttingIn cX11_weighPuttingIn 3 none) RX11 w none "weighPuttingIn") {v0 : Nat} {v1 : Nat} {post : Int32 → St → Prop} {Q : State → Prop} (hc : ConI l yX11_isLoose (wsOf yX11_isLoose cX11_isLoose 1 (some .boolean)) rX11_isLoose w S [.ref v1] post) (kk : ∀ (r : Int32) (S' : St), post r S' → K p l e rX11_weighPuttingIn s m args below meth c 3 w 0 0 Q S' 4 [(0, .ref v0), (1, .ref v1)] [.int r]) : K p l e rX11_weighPuttingIn s m args below meth c 3 w 0 0 Q S 0 [(0, .ref v0), (1, .ref v1)] [] := by
  refine k_aload_n B 1 rfl rfl dX11_weighPuttingIn_0 ?_
  refine callS_I (st := []) B [.ref v1] (hc) (va_cwS 1 B.1.2.2.2.2 (gS qlRX11_163 qsX11_isLoose qzRX11 qcX11_isLoose) rfl rfl rfl (by decide +kernel) ⟨Nat.le_of_ble_eq_true rfl, Nat.le_of_ble_eq_true rfl⟩) rfl (Nat.le_of_ble_eq_true rfl) rfl dX11_weighPuttingIn_1 ⟨Nat.le_of_ble_eq_true rfl, Nat.le_of_ble_eq_true rfl⟩ (fun r S' hp => ?_)
  exact kk r S' hp
theorem bX11_weighPuttingIn_4 (B : Bd p s m args meth c cX11_weighPuttingIn 3 (wsOf yX11_weighPuttingIn cX11_weighPuttingIn 3 none) RX11 w none "weighPuttingIn") {v0 : Nat} {v1 : Nat} {t0 : Int32} {Q : State → Prop}  (kt : ¬ t0 = 0 → K p l e rX11_weighPuttingIn s m args below meth c 3 w 0 0 Q S 8 [(0, .ref v0), (1, .ref v1)] []) (kf : t0 = 0 → K p l e rX11_weighPuttingIn s m args below meth c 3 w 0 0 Q S 7 [] []) : K p l e rX11_weighPuttingIn s m args below meth c 3 w 0 0 Q S 4 [(0, .ref v0), (1, .ref v1)] [.int t0] := by
  refine k_if_ne (tgt := 8) B dX11_weighPuttingIn_4 (by decide) (fun c => ?_) (fun c => ?_)
  · exact kt c
  · refine k_sub [] rfl ?_
    exact kf c
theorem bX11_weighPuttingIn_7 (B : Bd p s m args meth c cX11_weighPuttingIn 3 (wsOf yX11_weighPuttingIn cX11_weighPuttingIn 3 none) RX11 w none "weighPuttingIn") {post : St → Prop}  (hq : post S) : K p l e rX11_weighPuttingIn s m args below meth c 3 w 0 0 (MQ below (va_Qv post (fun S' t => Hd w S' t.heap) (wA w)) args s 0 0 (wA w)) S 7 [] [] := by
  exact ret_V B rfl dX11_weighPuttingIn_7 (hq)
theorem bX11_weighPuttingIn_8 (B : Bd p s m args meth c cX11_weighPuttingIn 3 (wsOf yX11_weighPuttingIn cX11_weighPuttingIn 3 none) RX11 w none "weighPuttingIn") {v0 : Nat} {v1 : Nat} {Q : State → Prop}  (kk : K p l e rX11_weighPuttingIn s m args below meth c 3 w 0 0 Q S 10 [(0, .ref v0), (1, .ref v1), (2, .int 0)] []) : K p l e rX11_weighPuttingIn s m args below meth c 3 w 0 0 Q S 8 [(0, .ref v0), (1, .ref v1)] [] := by
  refine k_iconst (v := 0) B (by decide) dX11_weighPuttingIn_8 ?_
  refine k_istore_n (lst' := [(2, .int 0), (0, .ref v0), (1, .ref v1)]) B rfl (by decide) rfl dX11_weighPuttingIn_9 ?_
  refine k_sub [1, 2, 0] rfl ?_
  exact kk
theorem bX11_weighPuttingIn_10 (B : Bd p s m args meth c cX11_weighPuttingIn 3 (wsOf yX11_weighPuttingIn cX11_weighPuttingIn 3 none) RX11 w none "weighPuttingIn") {v0 : Nat} {v1 : Nat} {v2 : Int32} {x1 : Nat} {post : Int32 → St → Prop} {Q : State → Prop} (h1 : kd S v0 = 13) (h2 : gP S 771 v0 = some x1) (hc : ConI l yJx4a65c_size_8abf5 (wsOf yJx4a65c_size_8abf5 cJx4a65c_size_8abf5 1 (some .int)) rJx4a65c_size_8abf5 w S [.ref x1] post) (h3 : kd S x1 = 1) (kk : ∀ (r : Int32) (S' : St), post r S' → K p l e rX11_weighPuttingIn s m args below meth c 3 w 0 0 Q S' 18 [(0, .ref v0), (1, .ref v1), (2, .int v2)] [.int r, .int v2]) : K p l e rX11_weighPuttingIn s m args below meth c 3 w 0 0 Q S 10 [(0, .ref v0), (1, .ref v1), (2, .int v2)] [] := by
  refine k_iload_n B 2 rfl rfl dX11_weighPuttingIn_10 ?_
  refine k_aload_n B 0 rfl rfl dX11_weighPuttingIn_11 ?_
  refine k_getP (f := 771) (r := gP S 771 v0) B 12 3 rfl (by decide) rfl (by decide) rfl rfl (fun w h => in_of (uw_12 w h)) (in_of qfRX11_26) dX11_weighPuttingIn_12 h1 rfl ?_
  rw [h2]; change K _ _ _ _ _ _ _ _ _ _ _ _ _ _ _ _ _ _ (.ref x1 :: _)
  refine callV_I (st := [.int v2]) B [] (hc) (cwV 0 B.1.2.2.2.2 (gV qlRX11_101 qiJx4a65c_size_8abf5 qeJx4a65c_size_8abf5 qzRJx4a65c qcJx4a65c_size_8abf5) rfl rfl rfl (by decide +kernel) ⟨Nat.le_of_ble_eq_true rfl, Nat.le_of_ble_eq_true rfl⟩) rfl rfl (by decide) h3 (Nat.le_of_ble_eq_true rfl) rfl dX11_weighPuttingIn_15 ⟨Nat.le_of_ble_eq_true rfl, Nat.le_of_ble_eq_true rfl⟩ (fun r S' hp => ?_)
  exact kk r S' hp
theorem bX11_weighPuttingIn_18 (B : Bd p s m args meth c cX11_weighPuttingIn 3 (wsOf yX11_weighPuttingIn cX11_weighPuttingIn 3 none) RX11 w none "weighPuttingIn") {v0 : Nat} {v1 : Nat} {v2 : Int32} {t0 : Int32} {t1 : Int32} {Q : State → Prop}  (kt : t1 ≤ t0 → K p l e rX11_weighPuttingIn s m args below meth c 3 w 0 0 Q S 58 [] []) (kf : ¬ t1 ≤ t0 → K p l e rX11_weighPuttingIn s m args below meth c 3 w 0 0 Q S 21 [(0, .ref v0), (1, .ref v1), (2, .int v2)] []) : K p l e rX11_weighPuttingIn s m args below meth c 3 w 0 0 Q S 18 [(0, .ref v0), (1, .ref v1), (2, .int v2)] [.int t1, .int t0] := by
  refine k_icmp_ge (tgt := 58) B dX11_weighPuttingIn_18 (by decide) (fun c => ?_) (fun c => ?_)
  · refine k_sub [] rfl ?_
    exact kt c
  · exact kf c
theorem bX11_weighPuttingIn_21 (B : Bd p s m args meth c cX11_weighPuttingIn 3 (wsOf yX11_weighPuttingIn cX11_weighPuttingIn 3 none) RX11 w none "weighPuttingIn") {v0 : Nat} {v1 : Nat} {v2 : Int32} {x1 : Nat} {post : Nat → St → Prop} {Q : State → Prop} (h1 : kd S v0 = 13) (h2 : gP S 771 v0 = some x1) (hc : ConR l yJx4a65c_get_915e3 (wsOf yJx4a65c_get_915e3 cJx4a65c_get_915e3 2 (some (.object "java/lang/Object"))) rJx4a65c_get_915e3 w S [.ref x1, .int v2] post) (h3 : kd S x1 = 1) (kk : ∀ (r : Nat) (S' : St), post r S' → K p l e rX11_weighPuttingIn s m args below meth c 3 w 0 0 Q S' 31 [(0, .ref v0), (1, .ref v1), (2, .int v2)] [.ref r, .ref v1, .ref v0]) : K p l e rX11_weighPuttingIn s m args below meth c 3 w 0 0 Q S 21 [(0, .ref v0), (1, .ref v1), (2, .int v2)] [] := by
  refine k_aload_n B 0 rfl rfl dX11_weighPuttingIn_21 ?_
  refine k_aload_n B 1 rfl rfl dX11_weighPuttingIn_22 ?_
  refine k_aload_n B 0 rfl rfl dX11_weighPuttingIn_23 ?_
  refine k_getP (f := 771) (r := gP S 771 v0) B 12 3 rfl (by decide) rfl (by decide) rfl rfl (fun w h => in_of (uw_12 w h)) (in_of qfRX11_26) dX11_weighPuttingIn_24 h1 rfl ?_
  rw [h2]; change K _ _ _ _ _ _ _ _ _ _ _ _ _ _ _ _ _ _ (.ref x1 :: _)
  refine k_iload_n B 2 rfl rfl dX11_weighPuttingIn_27 ?_
  refine callV_R (st := [.ref v1, .ref v0]) B [.int v2] (hc) (cwV 1 B.1.2.2.2.2 (gV qlRX11_124 qiJx4a65c_get_915e3 qeJx4a65c_get_915e3 qzRJx4a65c qcJx4a65c_get_915e3) rfl rfl rfl (by decide +kernel) ⟨Nat.le_of_ble_eq_true rfl, Nat.le_of_ble_eq_true rfl⟩) rfl rfl (by decide) h3 (Nat.le_of_ble_eq_true rfl) rfl dX11_weighPuttingIn_28 ⟨Nat.le_of_ble_eq_true rfl, Nat.le_of_ble_eq_true rfl⟩ (fun r S' hp => ?_)
  exact kk r S' hp
theorem bX11_weighPuttingIn_31 (B : Bd p s m args meth c cX11_weighPuttingIn 3 (wsOf yX11_weighPuttingIn cX11_weighPuttingIn 3 none) RX11 w none "weighPuttingIn") {v0 : Nat} {v1 : Nat} {v2 : Int32} {t0 : Nat} {t1 : Nat} {t2 : Nat} {x1 : Nat} {post : Nat → St → Prop} {Q : State → Prop} (h1 : kd S t2 = 12) (h2 : kd S v0 = 13) (h3 : gP S 771 v0 = some x1) (hc : ConR l yJx4a65c_get_915e3 (wsOf yJx4a65c_get_915e3 cJx4a65c_get_915e3 2 (some (.object "java/lang/Object"))) rJx4a65c_get_915e3 w S [.ref x1, .int v2] post) (h4 : kd S x1 = 1) (kk : ∀ (r : Nat) (S' : St), post r S' → K p l e rX11_weighPuttingIn s m args below meth c 3 w 0 0 Q S' 42 [(0, .ref v0), (1, .ref v1), (2, .int v2)] [.ref r, .ref t2, .ref t1, .ref t0]) : K p l e rX11_weighPuttingIn s m args below meth c 3 w 0 0 Q S 31 [(0, .ref v0), (1, .ref v1), (2, .int v2)] [.ref t2, .ref t1, .ref t0] := by
  refine k_cast B 11 rfl (by decide) (in_of qkRX11_139) dX11_weighPuttingIn_31 h1 ?_
  refine k_aload_n B 0 rfl rfl dX11_weighPuttingIn_34 ?_
  refine k_getP (f := 771) (r := gP S 771 v0) B 12 3 rfl (by decide) rfl (by decide) rfl rfl (fun w h => in_of (uw_12 w h)) (in_of qfRX11_26) dX11_weighPuttingIn_35 h2 rfl ?_
  rw [h3]; change K _ _ _ _ _ _ _ _ _ _ _ _ _ _ _ _ _ _ (.ref x1 :: _)
  refine k_iload_n B 2 rfl rfl dX11_weighPuttingIn_38 ?_
  refine callV_R (st := [.ref t2, .ref t1, .ref t0]) B [.int v2] (hc) (cwV 1 B.1.2.2.2.2 (gV qlRX11_124 qiJx4a65c_get_915e3 qeJx4a65c_get_915e3 qzRJx4a65c qcJx4a65c_get_915e3) rfl rfl rfl (by decide +kernel) ⟨Nat.le_of_ble_eq_true rfl, Nat.le_of_ble_eq_true rfl⟩) rfl rfl (by decide) h4 (Nat.le_of_ble_eq_true rfl) rfl dX11_weighPuttingIn_39 ⟨Nat.le_of_ble_eq_true rfl, Nat.le_of_ble_eq_true rfl⟩ (fun r S' hp => ?_)
  exact kk r S' hp
theorem bX11_weighPuttingIn_42 (B : Bd p s m args meth c cX11_weighPuttingIn 3 (wsOf yX11_weighPuttingIn cX11_weighPuttingIn 3 none) RX11 w none "weighPuttingIn") {v0 : Nat} {v1 : Nat} {v2 : Int32} {t0 : Nat} {t1 : Nat} {t2 : Nat} {t3 : Nat} {x1 : Nat} {post : St → Prop} {Q : State → Prop} (h1 : kd S t3 = 12) (h2 : gP S 708 t3 = some x1) (hc : ConV l yX11_weighPlaces (wsOf yX11_weighPlaces cX11_weighPlaces 8 none) rX11_weighPlaces w S [.ref t0, .ref t1, .ref t2, .ref x1, .int 0] post) (h3 : kd S t0 = 13) (kk : ∀ (S' : St), post S' → K p l e rX11_weighPuttingIn s m args below meth c 3 w 0 0 Q S' 52 [(0, .ref v0), (1, .ref v1), (2, .int v2)] []) : K p l e rX11_weighPuttingIn s m args below meth c 3 w 0 0 Q S 42 [(0, .ref v0), (1, .ref v1), (2, .int v2)] [.ref t3, .ref t2, .ref t1, .ref t0] := by
  refine k_cast B 11 rfl (by decide) (in_of qkRX11_139) dX11_weighPuttingIn_42 h1 ?_
  refine k_getP (f := 708) (r := gP S 708 t3) B 11 4 rfl (by decide) rfl (by decide) rfl rfl (fun w h => in_of (uw_11 w h)) (in_of qfRX11_187) dX11_weighPuttingIn_45 h1 rfl ?_
  rw [h2]; change K _ _ _ _ _ _ _ _ _ _ _ _ _ _ _ _ _ _ (.ref x1 :: _)
  refine k_iconst (v := 0) B (by decide) dX11_weighPuttingIn_48 ?_
  refine callV_V (st := []) B [.ref t1, .ref t2, .ref x1, .int 0] (hc) (cwV 4 B.1.2.2.2.2 (gV qlRX11_404 qiX11_weighPlaces qeX11_weighPlaces qzRX11 qcX11_weighPlaces) rfl rfl rfl (by decide +kernel) ⟨Nat.le_of_ble_eq_true rfl, Nat.le_of_ble_eq_true rfl⟩) rfl rfl (by decide) h3 (Nat.le_of_ble_eq_true rfl) rfl dX11_weighPuttingIn_49 ⟨Nat.le_of_ble_eq_true rfl, Nat.le_of_ble_eq_true rfl⟩ (fun S' hp => ?_)
  exact kk S' hp
theorem bX11_weighPuttingIn_52 (B : Bd p s m args meth c cX11_weighPuttingIn 3 (wsOf yX11_weighPuttingIn cX11_weighPuttingIn 3 none) RX11 w none "weighPuttingIn") {v0 : Nat} {v1 : Nat} {v2 : Int32} {Q : State → Prop}  (kk : K p l e rX11_weighPuttingIn s m args below meth c 3 w 0 0 Q S 10 [(0, .ref v0), (1, .ref v1), (2, .int (v2 + 1))] []) : K p l e rX11_weighPuttingIn s m args below meth c 3 w 0 0 Q S 52 [(0, .ref v0), (1, .ref v1), (2, .int v2)] [] := by
  refine k_iinc (v := v2 + 1) (lst' := [(2, .int (v2 + 1)), (0, .ref v0), (1, .ref v1)]) B 2 rfl rfl (by decide) rfl dX11_weighPuttingIn_52 ?_
  refine k_goto (tgt := 10) B dX11_weighPuttingIn_55 (by decide) ?_
  refine k_sub [1, 2, 0] rfl ?_
  exact kk
theorem bX11_weighPuttingIn_58 (B : Bd p s m args meth c cX11_weighPuttingIn 3 (wsOf yX11_weighPuttingIn cX11_weighPuttingIn 3 none) RX11 w none "weighPuttingIn") {post : St → Prop}  (hq : post S) : K p l e rX11_weighPuttingIn s m args below meth c 3 w 0 0 (MQ below (va_Qv post (fun S' t => Hd w S' t.heap) (wA w)) args s 0 0 (wA w)) S 58 [] [] := by
  exact ret_V B rfl dX11_weighPuttingIn_58 (hq)
theorem bX11_weighMoving_0 (B : Bd p s m args meth c cX11_weighMoving 6 (wsOf yX11_weighMoving cX11_weighMoving 6 none) RX11 w none "weighMoving") {v0 : Nat} {v1 : Nat} {Q : State → Prop} (h1 : kd S v1 = 5) (kt : ∀ x, gP S 263 v1 = some x → K p l e rX11_weighMoving s m args below meth c 6 w 0 0 Q S 8 [(0, .ref v0), (1, .ref v1)] []) (kf : gP S 263 v1 = none → K p l e rX11_weighMoving s m args below meth c 6 w 0 0 Q S 7 [] []) : K p l e rX11_weighMoving s m args below meth c 6 w 0 0 Q S 0 [(0, .ref v0), (1, .ref v1)] [] := by
  refine k_aload_n B 1 rfl rfl dX11_weighMoving_0 ?_
  refine k_getP (f := 263) (r := gP S 263 v1) B 4 7 rfl (by decide) rfl (by decide) rfl rfl (fun w h => in_of (uw_4 w h)) (in_of qfRX11_181) dX11_weighMoving_1 h1 rfl ?_
  refine k_ifnonnull (r := gP S 263 v1) (tgt := 8) B dX11_weighMoving_4 (by decide) (fun x c => ?_) (fun c => ?_)
  · exact kt x c
  · refine k_sub [] rfl ?_
    exact kf c
theorem bX11_weighMoving_7 (B : Bd p s m args meth c cX11_weighMoving 6 (wsOf yX11_weighMoving cX11_weighMoving 6 none) RX11 w none "weighMoving") {post : St → Prop}  (hq : post S) : K p l e rX11_weighMoving s m args below meth c 6 w 0 0 (MQ below (va_Qv post (fun S' t => Hd w S' t.heap) (wA w)) args s 0 0 (wA w)) S 7 [] [] := by
  exact ret_V B rfl dX11_weighMoving_7 (hq)
theorem bX11_weighMoving_8 (B : Bd p s m args meth c cX11_weighMoving 6 (wsOf yX11_weighMoving cX11_weighMoving 6 none) RX11 w none "weighMoving") {v0 : Nat} {v1 : Nat} {x1 : Nat} {x2 : Nat} {x3 : Nat} {post : St → Prop} {Q : State → Prop} (h1 : kd S v1 = 5) (h2 : gP S 263 v1 = some x1) (h3 : kd S v0 = 13) (h4 : gP S 777 v0 = some x2) (h5 : kd S x1 = 12) (h6 : gP S 708 x1 = some x3) (hc : ConV l yX6_copy (wsOf yX6_copy cX6_copy 3 none) rX6_copy w S [.ref x2, .ref x3] post) (h7 : kd S x2 = 8) (kk : ∀ (S' : St), post S' → K p l e rX11_weighMoving s m args below meth c 6 w 0 0 Q S' 24 [(0, .ref v0), (1, .ref v1), (2, .ref x1)] []) : K p l e rX11_weighMoving s m args below meth c 6 w 0 0 Q S 8 [(0, .ref v0), (1, .ref v1)] [] := by
  refine k_aload_n B 1 rfl rfl dX11_weighMoving_8 ?_
  refine k_getP (f := 263) (r := gP S 263 v1) B 4 7 rfl (by decide) rfl (by decide) rfl rfl (fun w h => in_of (uw_4 w h)) (in_of qfRX11_181) dX11_weighMoving_9 h1 rfl ?_
  rw [h2]; change K _ _ _ _ _ _ _ _ _ _ _ _ _ _ _ _ _ _ (.ref x1 :: _)
  refine k_astore_n (lst' := [(2, .ref x1), (0, .ref v0), (1, .ref v1)]) B rfl (by decide) rfl dX11_weighMoving_12 ?_
  refine k_aload_n B 1 rfl rfl dX11_weighMoving_13 ?_
  refine k_getP (f := 777) (r := gP S 777 v0) B 12 9 rfl (by decide) rfl (by decide) rfl rfl (fun w h => in_of (uw_12 w h)) (in_of qfRX11_64) dX11_weighMoving_14 h3 rfl ?_
  rw [h4]; change K _ _ _ _ _ _ _ _ _ _ _ _ _ _ _ _ _ _ (.ref x2 :: _)
  refine k_aload_n B 0 rfl rfl dX11_weighMoving_17 ?_
  refine k_getP (f := 708) (r := gP S 708 x1) B 11 4 rfl (by decide) rfl (by decide) rfl rfl (fun w h => in_of (uw_11 w h)) (in_of qfRX11_187) dX11_weighMoving_18 h5 rfl ?_
  rw [h6]; change K _ _ _ _ _ _ _ _ _ _ _ _ _ _ _ _ _ _ (.ref x3 :: _)
  refine callV_V (st := []) B [.ref x3] (hc) (cwV 1 B.1.2.2.2.2 (gV qlRX11_248 qiX6_copy qeX6_copy qzRX6 qcX6_copy) rfl rfl rfl (by decide +kernel) ⟨Nat.le_of_ble_eq_true rfl, Nat.le_of_ble_eq_true rfl⟩) rfl rfl (by decide) h7 (Nat.le_of_ble_eq_true rfl) rfl dX11_weighMoving_21 ⟨Nat.le_of_ble_eq_true rfl, Nat.le_of_ble_eq_true rfl⟩ (fun S' hp => ?_)
  refine k_sub [1, 2, 0] rfl ?_
  exact kk S' hp
theorem bX11_weighMoving_24 (B : Bd p s m args meth c cX11_weighMoving 6 (wsOf yX11_weighMoving cX11_weighMoving 6 none) RX11 w none "weighMoving") {v0 : Nat} {v1 : Nat} {v2 : Nat} {x1 : Nat} {post : St → Prop} {Q : State → Prop} (h1 : kd S v0 = 13) (h2 : gP S 777 v0 = some x1) (hc : ConV l yX6_remove (wsOf yX6_remove cX6_remove 4 none) rX6_remove w S [.ref x1, .ref v1] post) (h3 : kd S x1 = 8) (kk : ∀ (S' : St), post S' → K p l e rX11_weighMoving s m args below meth c 6 w 0 0 Q S' 32 [(0, .ref v0), (1, .ref v1), (2, .ref v2)] []) : K p l e rX11_weighMoving s m args below meth c 6 w 0 0 Q S 24 [(0, .ref v0), (1, .ref v1), (2, .ref v2)] [] := by
  refine k_aload_n B 0 rfl rfl dX11_weighMoving_24 ?_
  refine k_getP (f := 777) (r := gP S 777 v0) B 12 9 rfl (by decide) rfl (by decide) rfl rfl (fun w h => in_of (uw_12 w h)) (in_of qfRX11_64) dX11_weighMoving_25 h1 rfl ?_
  rw [h2]; change K _ _ _ _ _ _ _ _ _ _ _ _ _ _ _ _ _ _ (.ref x1 :: _)
  refine k_aload_n B 1 rfl rfl dX11_weighMoving_28 ?_
  refine callV_V (st := []) B [.ref v1] (hc) (cwV 1 B.1.2.2.2.2 (gV qlRX11_401 qiX6_remove qeX6_remove qzRX6 qcX6_remove) rfl rfl rfl (by decide +kernel) ⟨Nat.le_of_ble_eq_true rfl, Nat.le_of_ble_eq_true rfl⟩) rfl rfl (by decide) h3 (Nat.le_of_ble_eq_true rfl) rfl dX11_weighMoving_29 ⟨Nat.le_of_ble_eq_true rfl, Nat.le_of_ble_eq_true rfl⟩ (fun S' hp => ?_)
  exact kk S' hp
theorem bX11_weighMoving_32 (B : Bd p s m args meth c cX11_weighMoving 6 (wsOf yX11_weighMoving cX11_weighMoving 6 none) RX11 w none "weighMoving") {v0 : Nat} {v1 : Nat} {v2 : Nat} {x1 : Nat} {x2 : Nat} {post : Int32 → St → Prop} {Q : State → Prop} (h1 : kd S v0 = 13) (h2 : gP S 773 v0 = some x1) (h3 : kd S v2 = 12) (h4 : gP S 708 v2 = some x2) (hc : ConI l yX7_follow (wsOf yX7_follow cX7_follow 6 (some .int)) rX7_follow w S [.ref x1, .ref v2, .ref x2] post) (h5 : kd S x1 = 9) (kk : ∀ (r : Int32) (S' : St), post r S' → K p l e rX11_weighMoving s m args below meth c 6 w 0 0 Q S' 44 [(0, .ref v0), (1, .ref v1), (2, .ref v2)] [.int r]) : K p l e rX11_weighMoving s m args below meth c 6 w 0 0 Q S 32 [(0, .ref v0), (1, .ref v1), (2, .ref v2)] [] := by
  refine k_aload_n B 0 rfl rfl dX11_weighMoving_32 ?_
  refine k_getP (f := 773) (r := gP S 773 v0) B 12 5 rfl (by decide) rfl (by decide) rfl rfl (fun w h => in_of (uw_12 w h)) (in_of qfRX11_37) dX11_weighMoving_33 h1 rfl ?_
  rw [h2]; change K _ _ _ _ _ _ _ _ _ _ _ _ _ _ _ _ _ _ (.ref x1 :: _)
  refine k_aload_n B 2 rfl rfl dX11_weighMoving_36 ?_
  refine k_aload_n B 2 rfl rfl dX11_weighMoving_37 ?_
  refine k_getP (f := 708) (r := gP S 708 v2) B 11 4 rfl (by decide) rfl (by decide) rfl rfl (fun w h => in_of (uw_11 w h)) (in_of qfRX11_187) dX11_weighMoving_38 h3 rfl ?_
  rw [h4]; change K _ _ _ _ _ _ _ _ _ _ _ _ _ _ _ _ _ _ (.ref x2 :: _)
  refine callV_I (st := []) B [.ref v2, .ref x2] (hc) (cwV 2 B.1.2.2.2.2 (gV qlRX11_190 qiX7_follow qeX7_follow qzRX7 qcX7_follow) rfl rfl rfl (by decide +kernel) ⟨Nat.le_of_ble_eq_true rfl, Nat.le_of_ble_eq_true rfl⟩) rfl rfl (by decide) h5 (Nat.le_of_ble_eq_true rfl) rfl dX11_weighMoving_41 ⟨Nat.le_of_ble_eq_true rfl, Nat.le_of_ble_eq_true rfl⟩ (fun r S' hp => ?_)
  exact kk r S' hp
theorem bX11_weighMoving_44 (B : Bd p s m args meth c cX11_weighMoving 6 (wsOf yX11_weighMoving cX11_weighMoving 6 none) RX11 w none "weighMoving") {v0 : Nat} {v1 : Nat} {v2 : Nat} {t0 : Int32} {x1 : Nat} {x2 : Nat} {post : Int32 → St → Prop} {Q : State → Prop} (h1 : kd S v0 = 13) (h2 : gP S 773 v0 = some x1) (h3 : gP S 777 v0 = some x2) (hc : ConI l yX7_follow (wsOf yX7_follow cX7_follow 6 (some .int)) rX7_follow w S [.ref x1, .ref v2, .ref x2] post) (h4 : kd S x1 = 9) (kk : ∀ (r : Int32) (S' : St), post r S' → K p l e rX11_weighMoving s m args below meth c 6 w 0 0 Q S' 56 [(0, .ref v0), (1, .ref v1), (2, .ref v2)] [.int r, .int t0]) : K p l e rX11_weighMoving s m args below meth c 6 w 0 0 Q S 44 [(0, .ref v0), (1, .ref v1), (2, .ref v2)] [.int t0] := by
  refine k_aload_n B 0 rfl rfl dX11_weighMoving_44 ?_
  refine k_getP (f := 773) (r := gP S 773 v0) B 12 5 rfl (by decide) rfl (by decide) rfl rfl (fun w h => in_of (uw_12 w h)) (in_of qfRX11_37) dX11_weighMoving_45 h1 rfl ?_
  rw [h2]; change K _ _ _ _ _ _ _ _ _ _ _ _ _ _ _ _ _ _ (.ref x1 :: _)
  refine k_aload_n B 2 rfl rfl dX11_weighMoving_48 ?_
  refine k_aload_n B 0 rfl rfl dX11_weighMoving_49 ?_
  refine k_getP (f := 777) (r := gP S 777 v0) B 12 9 rfl (by decide) rfl (by decide) rfl rfl (fun w h => in_of (uw_12 w h)) (in_of qfRX11_64) dX11_weighMoving_50 h1 rfl ?_
  rw [h3]; change K _ _ _ _ _ _ _ _ _ _ _ _ _ _ _ _ _ _ (.ref x2 :: _)
  refine callV_I (st := [.int t0]) B [.ref v2, .ref x2] (hc) (cwV 2 B.1.2.2.2.2 (gV qlRX11_190 qiX7_follow qeX7_follow qzRX7 qcX7_follow) rfl rfl rfl (by decide +kernel) ⟨Nat.le_of_ble_eq_true rfl, Nat.le_of_ble_eq_true rfl⟩) rfl rfl (by decide) h4 (Nat.le_of_ble_eq_true rfl) rfl dX11_weighMoving_53 ⟨Nat.le_of_ble_eq_true rfl, Nat.le_of_ble_eq_true rfl⟩ (fun r S' hp => ?_)
  exact kk r S' hp
theorem bX11_weighMoving_56 (B : Bd p s m args meth c cX11_weighMoving 6 (wsOf yX11_weighMoving cX11_weighMoving 6 none) RX11 w none "weighMoving") {v0 : Nat} {v1 : Nat} {v2 : Nat} {t0 : Int32} {t1 : Int32} {Q : State → Prop}  (kk : K p l e rX11_weighMoving s m args below meth c 6 w 0 0 Q S 61 [(0, .ref v0), (1, .ref v1), (2, .ref v2), (3, .int (t0 - t1)), (4, .int 0)] []) : K p l e rX11_weighMoving s m args below meth c 6 w 0 0 Q S 56 [(0, .ref v0), (1, .ref v1), (2, .ref v2)] [.int t1, .int t0] := by
  refine k_isub B dX11_weighMoving_56 ?_
  refine k_istore_n (lst' := [(3, .int (t0 - t1)), (0, .ref v0), (1, .ref v1), (2, .ref v2)]) B rfl (by decide) rfl dX11_weighMoving_57 ?_
  refine k_iconst (v := 0) B (by decide) dX11_weighMoving_58 ?_
  refine k_istore (lst' := [(4, .int 0), (3, .int (t0 - t1)), (0, .ref v0), (1, .ref v1), (2, .ref v2)]) B (by decide) rfl dX11_weighMoving_59 ?_
  refine k_sub [2, 3, 4, 1, 0] rfl ?_
  exact kk
theorem bX11_weighMoving_61 (B : Bd p s m args meth c cX11_weighMoving 6 (wsOf yX11_weighMoving cX11_weighMoving 6 none) RX11 w none "weighMoving") {v0 : Nat} {v1 : Nat} {v2 : Nat} {v3 : Int32} {v4 : Int32} {x1 : Nat} {post : Int32 → St → Prop} {Q : State → Prop} (h1 : kd S v0 = 13) (h2 : gP S 771 v0 = some x1) (hc : ConI l yJx4a65c_size_8abf5 (wsOf yJx4a65c_size_8abf5 cJx4a65c_size_8abf5 1 (some .int)) rJx4a65c_size_8abf5 w S [.ref x1] post) (h3 : kd S x1 = 1) (kk : ∀ (r : Int32) (S' : St), post r S' → K p l e rX11_weighMoving s m args below meth c 6 w 0 0 Q S' 70 [(0, .ref v0), (1, .ref v1), (2, .ref v2), (3, .int v3), (4, .int v4)] [.int r, .int v4]) : K p l e rX11_weighMoving s m args below meth c 6 w 0 0 Q S 61 [(0, .ref v0), (1, .ref v1), (2, .ref v2), (3, .int v3), (4, .int v4)] [] := by
  refine k_iload B 4 rfl dX11_weighMoving_61 ?_
  refine k_aload_n B 0 rfl rfl dX11_weighMoving_63 ?_
  refine k_getP (f := 771) (r := gP S 771 v0) B 12 3 rfl (by decide) rfl (by decide) rfl rfl (fun w h => in_of (uw_12 w h)) (in_of qfRX11_26) dX11_weighMoving_64 h1 rfl ?_
  rw [h2]; change K _ _ _ _ _ _ _ _ _ _ _ _ _ _ _ _ _ _ (.ref x1 :: _)
  refine callV_I (st := [.int v4]) B [] (hc) (cwV 0 B.1.2.2.2.2 (gV qlRX11_101 qiJx4a65c_size_8abf5 qeJx4a65c_size_8abf5 qzRJx4a65c qcJx4a65c_size_8abf5) rfl rfl rfl (by decide +kernel) ⟨Nat.le_of_ble_eq_true rfl, Nat.le_of_ble_eq_true rfl⟩) rfl rfl (by decide) h3 (Nat.le_of_ble_eq_true rfl) rfl dX11_weighMoving_67 ⟨Nat.le_of_ble_eq_true rfl, Nat.le_of_ble_eq_true rfl⟩ (fun r S' hp => ?_)
  exact kk r S' hp
theorem bX11_weighMoving_70 (B : Bd p s m args meth c cX11_weighMoving 6 (wsOf yX11_weighMoving cX11_weighMoving 6 none) RX11 w none "weighMoving") {v0 : Nat} {v1 : Nat} {v2 : Nat} {v3 : Int32} {v4 : Int32} {t0 : Int32} {t1 : Int32} {Q : State → Prop}  (kt : t1 ≤ t0 → K p l e rX11_weighMoving s m args below meth c 6 w 0 0 Q S 119 [] []) (kf : ¬ t1 ≤ t0 → K p l e rX11_weighMoving s m args below meth c 6 w 0 0 Q S 73 [(0, .ref v0), (1, .ref v1), (2, .ref v2), (3, .int v3), (4, .int v4)] []) : K p l e rX11_weighMoving s m args below meth c 6 w 0 0 Q S 70 [(0, .ref v0), (1, .ref v1), (2, .ref v2), (3, .int v3), (4, .int v4)] [.int t1, .int t0] := by
  refine k_icmp_ge (tgt := 119) B dX11_weighMoving_70 (by decide) (fun c => ?_) (fun c => ?_)
  · refine k_sub [] rfl ?_
    exact kt c
  · exact kf c
theorem bX11_weighMoving_73 (B : Bd p s m args meth c cX11_weighMoving 6 (wsOf yX11_weighMoving cX11_weighMoving 6 none) RX11 w none "weighMoving") {v0 : Nat} {v1 : Nat} {v2 : Nat} {v3 : Int32} {v4 : Int32} {x1 : Nat} {post : Nat → St → Prop} {Q : State → Prop} (h1 : kd S v0 = 13) (h2 : gP S 771 v0 = some x1) (hc : ConR l yJx4a65c_get_915e3 (wsOf yJx4a65c_get_915e3 cJx4a65c_get_915e3 2 (some (.object "java/lang/Object"))) rJx4a65c_get_915e3 w S [.ref x1, .int v4] post) (h3 : kd S x1 = 1) (kk : ∀ (r : Nat) (S' : St), post r S' → K p l e rX11_weighMoving s m args below meth c 6 w 0 0 Q S' 82 [(0, .ref v0), (1, .ref v1), (2, .ref v2), (3, .int v3), (4, .int v4)] [.ref r]) : K p l e rX11_weighMoving s m args below meth c 6 w 0 0 Q S 73 [(0, .ref v0), (1, .ref v1), (2, .ref v2), (3, .int v3), (4, .int v4)] [] := by
  refine k_aload_n B 0 rfl rfl dX11_weighMoving_73 ?_
  refine k_getP (f := 771) (r := gP S 771 v0) B 12 3 rfl (by decide) rfl (by decide) rfl rfl (fun w h => in_of (uw_12 w h)) (in_of qfRX11_26) dX11_weighMoving_74 h1 rfl ?_
  rw [h2]; change K _ _ _ _ _ _ _ _ _ _ _ _ _ _ _ _ _ _ (.ref x1 :: _)
  refine k_iload B 4 rfl dX11_weighMoving_77 ?_
  refine callV_R (st := []) B [.int v4] (hc) (cwV 1 B.1.2.2.2.2 (gV qlRX11_124 qiJx4a65c_get_915e3 qeJx4a65c_get_915e3 qzRJx4a65c qcJx4a65c_get_915e3) rfl rfl rfl (by decide +kernel) ⟨Nat.le_of_ble_eq_true rfl, Nat.le_of_ble_eq_true rfl⟩) rfl rfl (by decide) h3 (Nat.le_of_ble_eq_true rfl) rfl dX11_weighMoving_79 ⟨Nat.le_of_ble_eq_true rfl, Nat.le_of_ble_eq_true rfl⟩ (fun r S' hp => ?_)
  exact kk r S' hp
theorem bX11_weighMoving_82 (B : Bd p s m args meth c cX11_weighMoving 6 (wsOf yX11_weighMoving cX11_weighMoving 6 none) RX11 w none "weighMoving") {v0 : Nat} {v1 : Nat} {v2 : Nat} {v3 : Int32} {v4 : Int32} {t0 : Nat} {Q : State → Prop} (h1 : kd S t0 = 12) (kt : ¬ (some t0) = (some v2) → K p l e rX11_weighMoving s m args below meth c 6 w 0 0 Q S 104 [(0, .ref v0), (1, .ref v1), (2, .ref v2), (3, .int v3), (4, .int v4), (5, .ref t0)] [.ref t0, .ref v1, .ref v0]) (kf : (some t0) = (some v2) → K p l e rX11_weighMoving s m args below meth c 6 w 0 0 Q S 97 [(0, .ref v0), (1, .ref v1), (2, .ref v2), (3, .int v3), (4, .int v4)] [.ref t0, .ref v1, .ref v0]) : K p l e rX11_weighMoving s m args below meth c 6 w 0 0 Q S 82 [(0, .ref v0), (1, .ref v1), (2, .ref v2), (3, .int v3), (4, .int v4)] [.ref t0] := by
  refine k_cast B 11 rfl (by decide) (in_of qkRX11_139) dX11_weighMoving_82 h1 ?_
  refine k_astore (lst' := [(5, .ref t0), (0, .ref v0), (1, .ref v1), (2, .ref v2), (3, .int v3), (4, .int v4)]) B (by decide) rfl dX11_weighMoving_85 ?_
  refine k_aload_n B 1 rfl rfl dX11_weighMoving_87 ?_
  refine k_aload_n B 2 rfl rfl dX11_weighMoving_88 ?_
  refine k_aload B 0 rfl dX11_weighMoving_89 ?_
  refine k_aload B 0 rfl dX11_weighMoving_91 ?_
  refine k_aload_n B 3 rfl rfl dX11_weighMoving_93 ?_
  refine k_acmp_ne (rx := some t0) (ry := some v2) (tgt := 104) B dX11_weighMoving_94 (by decide) (fun c => ?_) (fun c => ?_)
  · refine k_sub [1, 2, 3, 4, 5, 0] rfl ?_
    exact kt c
  · refine k_sub [1, 2, 3, 4, 5] rfl ?_
    exact kf c
theorem bX11_weighMoving_97 (B : Bd p s m args meth c cX11_weighMoving 6 (wsOf yX11_weighMoving cX11_weighMoving 6 none) RX11 w none "weighMoving") {v0 : Nat} {v1 : Nat} {v2 : Nat} {v3 : Int32} {v4 : Int32} {t0 : Nat} {t1 : Nat} {t2 : Nat} {x1 : Nat} {Q : State → Prop} (h1 : kd S v0 = 13) (h2 : gP S 777 v0 = some x1) (kk : K p l e rX11_weighMoving s m args below meth c 6 w 0 0 Q S 109 [(0, .ref v0), (1, .ref v1), (2, .ref v2), (3, .int v3), (4, .int v4)] [.ref x1, .ref t2, .ref t1, .ref t0]) : K p l e rX11_weighMoving s m args below meth c 6 w 0 0 Q S 97 [(0, .ref v0), (1, .ref v1), (2, .ref v2), (3, .int v3), (4, .int v4)] [.ref t2, .ref t1, .ref t0] := by
  refine k_aload_n B 0 rfl rfl dX11_weighMoving_97 ?_
  refine k_getP (f := 777) (r := gP S 777 v0) B 12 9 rfl (by decide) rfl (by decide) rfl rfl (fun w h => in_of (uw_12 w h)) (in_of qfRX11_64) dX11_weighMoving_98 h1 rfl ?_
  rw [h2]; change K _ _ _ _ _ _ _ _ _ _ _ _ _ _ _ _ _ _ (.ref x1 :: _)
  refine k_goto (tgt := 109) B dX11_weighMoving_101 (by decide) ?_
  exact kk
theorem bX11_weighMoving_104 (B : Bd p s m args meth c cX11_weighMoving 6 (wsOf yX11_weighMoving cX11_weighMoving 6 none) RX11 w none "weighMoving") {v0 : Nat} {v1 : Nat} {v2 : Nat} {v3 : Int32} {v4 : Int32} {v5 : Nat} {t0 : Nat} {t1 : Nat} {t2 : Nat} {x1 : Nat} {Q : State → Prop} (h1 : kd S v5 = 12) (h2 : gP S 708 v5 = some x1) (kk : K p l e rX11_weighMoving s m args below meth c 6 w 0 0 Q S 109 [(0, .ref v0), (1, .ref v1), (2, .ref v2), (3, .int v3), (4, .int v4)] [.ref x1, .ref t2, .ref t1, .ref t0]) : K p l e rX11_weighMoving s m args below meth c 6 w 0 0 Q S 104 [(0, .ref v0), (1, .ref v1), (2, .ref v2), (3, .int v3), (4, .int v4), (5, .ref v5)] [.ref t2, .ref t1, .ref t0] := by
  refine k_aload B 5 rfl dX11_weighMoving_104 ?_
  refine k_getP (f := 708) (r := gP S 708 v5) B 11 4 rfl (by decide) rfl (by decide) rfl rfl (fun w h => in_of (uw_11 w h)) (in_of qfRX11_187) dX11_weighMoving_106 h1 rfl ?_
  rw [h2]; change K _ _ _ _ _ _ _ _ _ _ _ _ _ _ _ _ _ _ (.ref x1 :: _)
  refine k_sub [0, 1, 2, 3, 4] rfl ?_
  exact kk
theorem bX11_weighMoving_109 (B : Bd p s m args meth c cX11_weighMoving 6 (wsOf yX11_weighMoving cX11_weighMoving 6 none) RX11 w none "weighMoving") {v0 : Nat} {v1 : Nat} {v2 : Nat} {v3 : Int32} {v4 : Int32} {t0 : Nat} {t1 : Nat} {t2 : Nat} {t3 : Nat} {post : St → Prop} {Q : State → Prop} (hc : ConV l yX11_weighPlaces (wsOf yX11_weighPlaces cX11_weighPlaces 8 none) rX11_weighPlaces w S [.ref t0, .ref t1, .ref t2, .ref t3, .int v3] post) (h1 : kd S t0 = 13) (kk : ∀ (S' : St), post S' → K p l e rX11_weighMoving s m args below meth c 6 w 0 0 Q S' 113 [(0, .ref v0), (1, .ref v1), (2, .ref v2), (3, .int v3), (4, .int v4)] []) : K p l e rX11_weighMoving s m args below meth c 6 w 0 0 Q S 109 [(0, .ref v0), (1, .ref v1), (2, .ref v2), (3, .int v3), (4, .int v4)] [.ref t3, .ref t2, .ref t1, .ref t0] := by
  refine k_iload_n B 3 rfl rfl dX11_weighMoving_109 ?_
  refine callV_V (st := []) B [.ref t1, .ref t2, .ref t3, .int v3] (hc) (cwV 4 B.1.2.2.2.2 (gV qlRX11_404 qiX11_weighPlaces qeX11_weighPlaces qzRX11 qcX11_weighPlaces) rfl rfl rfl (by decide +kernel) ⟨Nat.le_of_ble_eq_true rfl, Nat.le_of_ble_eq_true rfl⟩) rfl rfl (by decide) h1 (Nat.le_of_ble_eq_true rfl) rfl dX11_weighMoving_110 ⟨Nat.le_of_ble_eq_true rfl, Nat.le_of_ble_eq_true rfl⟩ (fun S' hp => ?_)
  exact kk S' hp
theorem bX11_weighMoving_113 (B : Bd p s m args meth c cX11_weighMoving 6 (wsOf yX11_weighMoving cX11_weighMoving 6 none) RX11 w none "weighMoving") {v0 : Nat} {v1 : Nat} {v2 : Nat} {v3 : Int32} {v4 : Int32} {Q : State → Prop}  (kk : K p l e rX11_weighMoving s m args below meth c 6 w 0 0 Q S 61 [(0, .ref v0), (1, .ref v1), (2, .ref v2), (3, .int v3), (4, .int (v4 + 1))] []) : K p l e rX11_weighMoving s m args below meth c 6 w 0 0 Q S 113 [(0, .ref v0), (1, .ref v1), (2, .ref v2), (3, .int v3), (4, .int v4)] [] := by
  refine k_iinc (v := v4 + 1) (lst' := [(4, .int (v4 + 1)), (0, .ref v0), (1, .ref v1), (2, .ref v2), (3, .int v3)]) B 4 rfl rfl (by decide) rfl dX11_weighMoving_113 ?_
  refine k_goto (tgt := 61) B dX11_weighMoving_116 (by decide) ?_
  refine k_sub [1, 2, 3, 4, 0] rfl ?_
  exact kk
theorem bX11_weighMoving_119 (B : Bd p s m args meth c cX11_weighMoving 6 (wsOf yX11_weighMoving cX11_weighMoving 6 none) RX11 w none "weighMoving") {post : St → Prop}  (hq : post S) : K p l e rX11_weighMoving s m args below meth c 6 w 0 0 (MQ below (va_Qv post (fun S' t => Hd w S' t.heap) (wA w)) args s 0 0 (wA w)) S 119 [] [] := by
  exact ret_V B rfl dX11_weighMoving_119 (hq)
theorem bX11_weighPlaces_0 (B : Bd p s m args meth c cX11_weighPlaces 8 (wsOf yX11_weighPlaces cX11_weighPlaces 8 none) RX11 w none "weighPlaces") {v0 : Nat} {v1 : Nat} {v2 : Nat} {v3 : Nat} {v4 : Int32} {x1 : Nat} {post : Int32 → St → Prop} {Q : State → Prop} (h1 : kd S v0 = 13) (h2 : gP S 773 v0 = some x1) (hc : ConI l yX7_follow (wsOf yX7_follow cX7_follow 6 (some .int)) rX7_follow w S [.ref x1, .ref v2, .ref v3] post) (h3 : kd S x1 = 9) (kk : ∀ (r : Int32) (S' : St), post r S' → K p l e rX11_weighPlaces s m args below meth c 8 w 0 0 Q S' 9 [(0, .ref v0), (1, .ref v1), (2, .ref v2), (3, .ref v3), (4, .int v4)] [.int r]) : K p l e rX11_weighPlaces s m args below meth c 8 w 0 0 Q S 0 [(0, .ref v0), (1, .ref v1), (2, .ref v2), (3, .ref v3), (4, .int v4)] [] := by
  refine k_aload_n B 0 rfl rfl dX11_weighPlaces_0 ?_
  refine k_getP (f := 773) (r := gP S 773 v0) B 12 5 rfl (by decide) rfl (by decide) rfl rfl (fun w h => in_of (uw_12 w h)) (in_of qfRX11_37) dX11_weighPlaces_1 h1 rfl ?_
  rw [h2]; change K _ _ _ _ _ _ _ _ _ _ _ _ _ _ _ _ _ _ (.ref x1 :: _)
  refine k_aload_n B 2 rfl rfl dX11_weighPlaces_4 ?_
  refine k_aload_n B 3 rfl rfl dX11_weighPlaces_5 ?_
  refine callV_I (st := []) B [.ref v2, .ref v3] (hc) (cwV 2 B.1.2.2.2.2 (gV qlRX11_190 qiX7_follow qeX7_follow qzRX7 qcX7_follow) rfl rfl rfl (by decide +kernel) ⟨Nat.le_of_ble_eq_true rfl, Nat.le_of_ble_eq_true rfl⟩) rfl rfl (by decide) h3 (Nat.le_of_ble_eq_true rfl) rfl dX11_weighPlaces_6 ⟨Nat.le_of_ble_eq_true rfl, Nat.le_of_ble_eq_true rfl⟩ (fun r S' hp => ?_)
  exact kk r S' hp
theorem bX11_weighPlaces_9 (B : Bd p s m args meth c cX11_weighPlaces 8 (wsOf yX11_weighPlaces cX11_weighPlaces 8 none) RX11 w none "weighPlaces") {v0 : Nat} {v1 : Nat} {v2 : Nat} {v3 : Nat} {v4 : Int32} {t0 : Int32} {Q : State → Prop}  (kk : K p l e rX11_weighPlaces s m args below meth c 8 w 0 0 Q S 14 [(0, .ref v0), (1, .ref v1), (2, .ref v2), (3, .ref v3), (4, .int v4), (5, .int t0), (6, .int 0)] []) : K p l e rX11_weighPlaces s m args below meth c 8 w 0 0 Q S 9 [(0, .ref v0), (1, .ref v1), (2, .ref v2), (3, .ref v3), (4, .int v4)] [.int t0] := by
  refine k_istore (lst' := [(5, .int t0), (0, .ref v0), (1, .ref v1), (2, .ref v2), (3, .ref v3), (4, .int v4)]) B (by decide) rfl dX11_weighPlaces_9 ?_
  refine k_iconst (v := 0) B (by decide) dX11_weighPlaces_11 ?_
  refine k_istore (lst' := [(6, .int 0), (5, .int t0), (0, .ref v0), (1, .ref v1), (2, .ref v2), (3, .ref v3), (4, .int v4)]) B (by decide) rfl dX11_weighPlaces_12 ?_
  refine k_sub [2, 3, 4, 5, 6, 1, 0] rfl ?_
  exact kk
theorem bX11_weighPlaces_14 (B : Bd p s m args meth c cX11_weighPlaces 8 (wsOf yX11_weighPlaces cX11_weighPlaces 8 none) RX11 w none "weighPlaces") {v0 : Nat} {v1 : Nat} {v2 : Nat} {v3 : Nat} {v4 : Int32} {v5 : Int32} {v6 : Int32} {Q : State → Prop} (h1 : kd S v3 = 8) (kt : (gI S 449 v3) < v6 → K p l e rX11_weighPlaces s m args below meth c 8 w 0 0 Q S 101 [] []) (kf : ¬ (gI S 449 v3) < v6 → K p l e rX11_weighPlaces s m args below meth c 8 w 0 0 Q S 23 [(0, .ref v0), (1, .ref v1), (2, .ref v2), (3, .ref v3), (4, .int v4), (5, .int v5), (6, .int v6)] []) : K p l e rX11_weighPlaces s m args below meth c 8 w 0 0 Q S 14 [(0, .ref v0), (1, .ref v1), (2, .ref v2), (3, .ref v3), (4, .int v4), (5, .int v5), (6, .int v6)] [] := by
  refine k_iload B 6 rfl dX11_weighPlaces_14 ?_
  refine k_aload_n B 3 rfl rfl dX11_weighPlaces_16 ?_
  refine k_getI (f := 449) (v := gI S 449 v3) B 7 1 rfl (by decide) rfl (by decide) rfl rfl (fun w h => in_of (uw_7 w h)) (in_of qfRX11_246) dX11_weighPlaces_17 h1 rfl ?_
  refine k_icmp_gt (tgt := 101) B dX11_weighPlaces_20 (by decide) (fun c => ?_) (fun c => ?_)
  · refine k_sub [] rfl ?_
    exact kt c
  · exact kf c
theorem bX11_weighPlaces_23 (B : Bd p s m args meth c cX11_weighPlaces 8 (wsOf yX11_weighPlaces cX11_weighPlaces 8 none) RX11 w none "weighPlaces") {v0 : Nat} {v1 : Nat} {v2 : Nat} {v3 : Nat} {v4 : Int32} {v5 : Int32} {v6 : Int32} {x1 : Nat} {post : St → Prop} {Q : State → Prop} (h1 : kd S v0 = 13) (h2 : gP S 776 v0 = some x1) (hc : ConV l yX6_copy (wsOf yX6_copy cX6_copy 3 none) rX6_copy w S [.ref x1, .ref v3] post) (h3 : kd S x1 = 8) (kk : ∀ (S' : St), post S' → K p l e rX11_weighPlaces s m args below meth c 8 w 0 0 Q S' 31 [(0, .ref v0), (1, .ref v1), (2, .ref v2), (3, .ref v3), (4, .int v4), (5, .int v5), (6, .int v6)] []) : K p l e rX11_weighPlaces s m args below meth c 8 w 0 0 Q S 23 [(0, .ref v0), (1, .ref v1), (2, .ref v2), (3, .ref v3), (4, .int v4), (5, .int v5), (6, .int v6)] [] := by
  refine k_aload_n B 0 rfl rfl dX11_weighPlaces_23 ?_
  refine k_getP (f := 776) (r := gP S 776 v0) B 12 8 rfl (by decide) rfl (by decide) rfl rfl (fun w h => in_of (uw_12 w h)) (in_of qfRX11_60) dX11_weighPlaces_24 h1 rfl ?_
  rw [h2]; change K _ _ _ _ _ _ _ _ _ _ _ _ _ _ _ _ _ _ (.ref x1 :: _)
  refine k_aload_n B 3 rfl rfl dX11_weighPlaces_27 ?_
  refine callV_V (st := []) B [.ref v3] (hc) (cwV 1 B.1.2.2.2.2 (gV qlRX11_248 qiX6_copy qeX6_copy qzRX6 qcX6_copy) rfl rfl rfl (by decide +kernel) ⟨Nat.le_of_ble_eq_true rfl, Nat.le_of_ble_eq_true rfl⟩) rfl rfl (by decide) h3 (Nat.le_of_ble_eq_true rfl) rfl dX11_weighPlaces_28 ⟨Nat.le_of_ble_eq_true rfl, Nat.le_of_ble_eq_true rfl⟩ (fun S' hp => ?_)
  exact kk S' hp
theorem bX11_weighPlaces_31 (B : Bd p s m args meth c cX11_weighPlaces 8 (wsOf yX11_weighPlaces cX11_weighPlaces 8 none) RX11 w none "weighPlaces") {v0 : Nat} {v1 : Nat} {v2 : Nat} {v3 : Nat} {v4 : Int32} {v5 : Int32} {v6 : Int32} {x1 : Nat} {post : St → Prop} {Q : State → Prop} (h1 : kd S v0 = 13) (h2 : gP S 776 v0 = some x1) (hc : ConV l yX6_insert (wsOf yX6_insert cX6_insert 4 none) rX6_insert w S [.ref x1, .ref v1, .int v6] post) (h3 : kd S x1 = 8) (kk : ∀ (S' : St), post S' → K p l e rX11_weighPlaces s m args below meth c 8 w 0 0 Q S' 41 [(0, .ref v0), (1, .ref v1), (2, .ref v2), (3, .ref v3), (4, .int v4), (5, .int v5), (6, .int v6)] []) : K p l e rX11_weighPlaces s m args below meth c 8 w 0 0 Q S 31 [(0, .ref v0), (1, .ref v1), (2, .ref v2), (3, .ref v3), (4, .int v4), (5, .int v5), (6, .int v6)] [] := by
  refine k_aload_n B 0 rfl rfl dX11_weighPlaces_31 ?_
  refine k_getP (f := 776) (r := gP S 776 v0) B 12 8 rfl (by decide) rfl (by decide) rfl rfl (fun w h => in_of (uw_12 w h)) (in_of qfRX11_60) dX11_weighPlaces_32 h1 rfl ?_
  rw [h2]; change K _ _ _ _ _ _ _ _ _ _ _ _ _ _ _ _ _ _ (.ref x1 :: _)
  refine k_aload_n B 1 rfl rfl dX11_weighPlaces_35 ?_
  refine k_iload B 6 rfl dX11_weighPlaces_36 ?_
  refine callV_V (st := []) B [.ref v1, .int v6] (hc) (cwV 2 B.1.2.2.2.2 (gV qlRX11_398 qiX6_insert qeX6_insert qzRX6 qcX6_insert) rfl rfl rfl (by decide +kernel) ⟨Nat.le_of_ble_eq_true rfl, Nat.le_of_ble_eq_true rfl⟩) rfl rfl (by decide) h3 (Nat.le_of_ble_eq_true rfl) rfl dX11_weighPlaces_38 ⟨Nat.le_of_ble_eq_true rfl, Nat.le_of_ble_eq_true rfl⟩ (fun S' hp => ?_)
  exact kk S' hp
theorem bX11_weighPlaces_41 (B : Bd p s m args meth c cX11_weighPlaces 8 (wsOf yX11_weighPlaces cX11_weighPlaces 8 none) RX11 w none "weighPlaces") {v0 : Nat} {v1 : Nat} {v2 : Nat} {v3 : Nat} {v4 : Int32} {v5 : Int32} {v6 : Int32} {x1 : Nat} {post : Int32 → St → Prop} {Q : State → Prop} (h1 : kd S v0 = 13) (h2 : gP S 776 v0 = some x1) (h3 : kd S v2 = 12) (hc : ConI l yX6_fits (wsOf yX6_fits cX6_fits 2 (some .boolean)) rX6_fits w S [.ref x1, .int (gI S 705 v2)] post) (h4 : kd S x1 = 8) (kk : ∀ (r : Int32) (S' : St), post r S' → K p l e rX11_weighPlaces s m args below meth c 8 w 0 0 Q S' 52 [(0, .ref v0), (1, .ref v1), (2, .ref v2), (3, .ref v3), (4, .int v4), (5, .int v5), (6, .int v6)] [.int r]) : K p l e rX11_weighPlaces s m args below meth c 8 w 0 0 Q S 41 [(0, .ref v0), (1, .ref v1), (2, .ref v2), (3, .ref v3), (4, .int v4), (5, .int v5), (6, .int v6)] [] := by
  refine k_aload_n B 0 rfl rfl dX11_weighPlaces_41 ?_
  refine k_getP (f := 776) (r := gP S 776 v0) B 12 8 rfl (by decide) rfl (by decide) rfl rfl (fun w h => in_of (uw_12 w h)) (in_of qfRX11_60) dX11_weighPlaces_42 h1 rfl ?_
  rw [h2]; change K _ _ _ _ _ _ _ _ _ _ _ _ _ _ _ _ _ _ (.ref x1 :: _)
  refine k_aload_n B 2 rfl rfl dX11_weighPlaces_45 ?_
  refine k_getI (f := 705) (v := gI S 705 v2) B 11 1 rfl (by decide) rfl (by decide) rfl rfl (fun w h => in_of (uw_11 w h)) (in_of qfRX11_255) dX11_weighPlaces_46 h3 rfl ?_
  refine callV_I (st := []) B [.int (gI S 705 v2)] (hc) (cwV 1 B.1.2.2.2.2 (gV qlRX11_258 qiX6_fits qeX6_fits qzRX6 qcX6_fits) rfl rfl rfl (by decide +kernel) ⟨Nat.le_of_ble_eq_true rfl, Nat.le_of_ble_eq_true rfl⟩) rfl rfl (by decide) h4 (Nat.le_of_ble_eq_true rfl) rfl dX11_weighPlaces_49 ⟨Nat.le_of_ble_eq_true rfl, Nat.le_of_ble_eq_true rfl⟩ (fun r S' hp => ?_)
  exact kk r S' hp
theorem bX11_weighPlaces_52 (B : Bd p s m args meth c cX11_weighPlaces 8 (wsOf yX11_weighPlaces cX11_weighPlaces 8 none) RX11 w none "weighPlaces") {v0 : Nat} {v1 : Nat} {v2 : Nat} {v3 : Nat} {v4 : Int32} {v5 : Int32} {v6 : Int32} {t0 : Int32} {Q : State → Prop}  (kt : t0 = 0 → K p l e rX11_weighPlaces s m args below meth c 8 w 0 0 Q S 95 [(0, .ref v0), (1, .ref v1), (2, .ref v2), (3, .ref v3), (4, .int v4), (5, .int v5), (6, .int v6)] []) (kf : ¬ t0 = 0 → K p l e rX11_weighPlaces s m args below meth c 8 w 0 0 Q S 55 [(0, .ref v0), (1, .ref v1), (2, .ref v2), (3, .ref v3), (4, .int v4), (5, .int v5), (6, .int v6)] []) : K p l e rX11_weighPlaces s m args below meth c 8 w 0 0 Q S 52 [(0, .ref v0), (1, .ref v1), (2, .ref v2), (3, .ref v3), (4, .int v4), (5, .int v5), (6, .int v6)] [.int t0] := by
  refine k_if_eq (tgt := 95) B dX11_weighPlaces_52 (by decide) (fun c => ?_) (fun c => ?_)
  · exact kt c
  · exact kf c
theorem bX11_weighPlaces_55 (B : Bd p s m args meth c cX11_weighPlaces 8 (wsOf yX11_weighPlaces cX11_weighPlaces 8 none) RX11 w none "weighPlaces") {v0 : Nat} {v1 : Nat} {v2 : Nat} {v3 : Nat} {v4 : Int32} {v5 : Int32} {v6 : Int32} {x1 : Nat} {x2 : Nat} {post : Int32 → St → Prop} {Q : State → Prop} (h1 : kd S v0 = 13) (h2 : gP S 773 v0 = some x1) (h3 : gP S 776 v0 = some x2) (hc : ConI l yX7_follow (wsOf yX7_follow cX7_follow 6 (some .int)) rX7_follow w S [.ref x1, .ref v2, .ref x2] post) (h4 : kd S x1 = 9) (kk : ∀ (r : Int32) (S' : St), post r S' → K p l e rX11_weighPlaces s m args below meth c 8 w 0 0 Q S' 67 [(0, .ref v0), (1, .ref v1), (2, .ref v2), (3, .ref v3), (4, .int v4), (5, .int v5), (6, .int v6)] [.int r]) : K p l e rX11_weighPlaces s m args below meth c 8 w 0 0 Q S 55 [(0, .ref v0), (1, .ref v1), (2, .ref v2), (3, .ref v3), (4, .int v4), (5, .int v5), (6, .int v6)] [] := by
  refine k_aload_n B 0 rfl rfl dX11_weighPlaces_55 ?_
  refine k_getP (f := 773) (r := gP S 773 v0) B 12 5 rfl (by decide) rfl (by decide) rfl rfl (fun w h => in_of (uw_12 w h)) (in_of qfRX11_37) dX11_weighPlaces_56 h1 rfl ?_
  rw [h2]; change K _ _ _ _ _ _ _ _ _ _ _ _ _ _ _ _ _ _ (.ref x1 :: _)
  refine k_aload_n B 2 rfl rfl dX11_weighPlaces_59 ?_
  refine k_aload_n B 0 rfl rfl dX11_weighPlaces_60 ?_
  refine k_getP (f := 776) (r := gP S 776 v0) B 12 8 rfl (by decide) rfl (by decide) rfl rfl (fun w h => in_of (uw_12 w h)) (in_of qfRX11_60) dX11_weighPlaces_61 h1 rfl ?_
  rw [h3]; change K _ _ _ _ _ _ _ _ _ _ _ _ _ _ _ _ _ _ (.ref x2 :: _)
  refine callV_I (st := []) B [.ref v2, .ref x2] (hc) (cwV 2 B.1.2.2.2.2 (gV qlRX11_190 qiX7_follow qeX7_follow qzRX7 qcX7_follow) rfl rfl rfl (by decide +kernel) ⟨Nat.le_of_ble_eq_true rfl, Nat.le_of_ble_eq_true rfl⟩) rfl rfl (by decide) h4 (Nat.le_of_ble_eq_true rfl) rfl dX11_weighPlaces_64 ⟨Nat.le_of_ble_eq_true rfl, Nat.le_of_ble_eq_true rfl⟩ (fun r S' hp => ?_)
  exact kk r S' hp
theorem bX11_weighPlaces_67 (B : Bd p s m args meth c cX11_weighPlaces 8 (wsOf yX11_weighPlaces cX11_weighPlaces 8 none) RX11 w none "weighPlaces") {v0 : Nat} {v1 : Nat} {v2 : Nat} {v3 : Nat} {v4 : Int32} {v5 : Int32} {v6 : Int32} {t0 : Int32} {x1 : Nat} {post : St → Prop} {Q : State → Prop} (h1 : kd S v0 = 13) (h2 : gP S 775 v0 = some x1) (h3 : kd S v2 = 12) (hc : ConV l yX0_weigh (wsOf yX0_weigh cX0_weigh 4 none) rX0_weigh w S [.ref x1, .int ((t0 - v5) - v4), .ref v1, .int ((16 * (gI S 704 v2)) + v6)] post) (h4 : kd S x1 = 2) (kk : ∀ (S' : St), post S' → K p l e rX11_weighPlaces s m args below meth c 8 w 0 0 Q S' 95 [(0, .ref v0), (1, .ref v1), (2, .ref v2), (3, .ref v3), (4, .int v4), (5, .int v5), (6, .int v6)] []) : K p l e rX11_weighPlaces s m args below meth c 8 w 0 0 Q S 67 [(0, .ref v0), (1, .ref v1), (2, .ref v2), (3, .ref v3), (4, .int v4), (5, .int v5), (6, .int v6)] [.int t0] := by
  refine k_iload B 5 rfl dX11_weighPlaces_67 ?_
  refine k_isub B dX11_weighPlaces_69 ?_
  refine k_iload B 4 rfl dX11_weighPlaces_70 ?_
  refine k_isub B dX11_weighPlaces_72 ?_
  refine k_istore (lst' := [(7, .int ((t0 - v5) - v4)), (0, .ref v0), (1, .ref v1), (2, .ref v2), (3, .ref v3), (4, .int v4), (5, .int v5), (6, .int v6)]) B (by decide) rfl dX11_weighPlaces_73 ?_
  refine k_aload_n B 1 rfl rfl dX11_weighPlaces_75 ?_
  refine k_getP (f := 775) (r := gP S 775 v0) B 12 7 rfl (by decide) rfl (by decide) rfl rfl (fun w h => in_of (uw_12 w h)) (in_of qfRX11_53) dX11_weighPlaces_76 h1 rfl ?_
  rw [h2]; change K _ _ _ _ _ _ _ _ _ _ _ _ _ _ _ _ _ _ (.ref x1 :: _)
  refine k_iload B 0 rfl dX11_weighPlaces_79 ?_
  refine k_aload_n B 2 rfl rfl dX11_weighPlaces_81 ?_
  refine k_bipush (v := 16) B (by decide) dX11_weighPlaces_82 ?_
  refine k_aload_n B 3 rfl rfl dX11_weighPlaces_84 ?_
  refine k_getI (f := 704) (v := gI S 704 v2) B 11 0 rfl (by decide) rfl (by decide) rfl rfl (fun w h => in_of (uw_11 w h)) (in_of qfRX11_361) dX11_weighPlaces_85 h3 rfl ?_
  refine k_imul B dX11_weighPlaces_88 ?_
  refine k_iload B 7 rfl dX11_weighPlaces_89 ?_
  refine k_iadd B dX11_weighPlaces_91 ?_
  refine callV_V (st := []) B [.int ((t0 - v5) - v4), .ref v1, .int ((16 * (gI S 704 v2)) + v6)] (hc) (cwV 3 B.1.2.2.2.2 (gV qlRX11_408 qiX0_weigh qeX0_weigh qzRX0 qcX0_weigh) rfl rfl rfl (by decide +kernel) ⟨Nat.le_of_ble_eq_true rfl, Nat.le_of_ble_eq_true rfl⟩) rfl rfl (by decide) h4 (Nat.le_of_ble_eq_true rfl) rfl dX11_weighPlaces_92 ⟨Nat.le_of_ble_eq_true rfl, Nat.le_of_ble_eq_true rfl⟩ (fun S' hp => ?_)
  refine k_sub [1, 2, 3, 4, 5, 6, 7] rfl ?_
  exact kk S' hp
theorem bX11_weighPlaces_95 (B : Bd p s m args meth c cX11_weighPlaces 8 (wsOf yX11_weighPlaces cX11_weighPlaces 8 none) RX11 w none "weighPlaces") {v0 : Nat} {v1 : Nat} {v2 : Nat} {v3 : Nat} {v4 : Int32} {v5 : Int32} {v6 : Int32} {Q : State → Prop}  (kk : K p l e rX11_weighPlaces s m args below meth c 8 w 0 0 Q S 14 [(0, .ref v0), (1, .ref v1), (2, .ref v2), (3, .ref v3), (4, .int v4), (5, .int v5), (6, .int (v6 + 1))] []) : K p l e rX11_weighPlaces s m args below meth c 8 w 0 0 Q S 95 [(0, .ref v0), (1, .ref v1), (2, .ref v2), (3, .ref v3), (4, .int v4), (5, .int v5), (6, .int v6)] [] := by
  refine k_iinc (v := v6 + 1) (lst' := [(6, .int (v6 + 1)), (0, .ref v0), (1, .ref v1), (2, .ref v2), (3, .ref v3), (4, .int v4), (5, .int v5)]) B 6 rfl rfl (by decide) rfl dX11_weighPlaces_95 ?_
  refine k_goto (tgt := 14) B dX11_weighPlaces_98 (by decide) ?_
  refine k_sub [1, 2, 3, 4, 5, 6, 0] rfl ?_
  exact kk
theorem bX11_weighPlaces_101 (B : Bd p s m args meth c cX11_weighPlaces 8 (wsOf yX11_weighPlaces cX11_weighPlaces 8 none) RX11 w none "weighPlaces") {post : St → Prop}  (hq : post S) : K p l e rX11_weighPlaces s m args below meth c 8 w 0 0 (MQ below (va_Qv post (fun S' t => Hd w S' t.heap) (wA w)) args s 0 0 (wA w)) S 101 [] [] := by
  exact ret_V B rfl dX11_weighPlaces_101 (hq)
theorem bX11_driveVans_0 (B : Bd p s m args meth c cX11_driveVans 2 (wsOf yX11_driveVans cX11_driveVans 2 none) RX11 w none "driveVans") {v0 : Nat} {x1 : Nat} {post : St → Prop} {Q : State → Prop} (h1 : kd S v0 = 13) (h2 : gP S 774 v0 = some x1) (hc : ConV l yX5_begin (wsOf yX5_begin cX5_begin 1 none) rX5_begin w S [.ref x1] post) (h3 : kd S x1 = 7) (kk : ∀ (S' : St), post S' → K p l e rX11_driveVans s m args below meth c 2 w 0 0 Q S' 7 [(0, .ref v0)] []) : K p l e rX11_driveVans s m args below meth c 2 w 0 0 Q S 0 [(0, .ref v0)] [] := by
  refine k_aload_n B 0 rfl rfl dX11_driveVans_0 ?_
  refine k_getP (f := 774) (r := gP S 774 v0) B 12 6 rfl (by decide) rfl (by decide) rfl rfl (fun w h => in_of (uw_12 w h)) (in_of qfRX11_46) dX11_driveVans_1 h1 rfl ?_
  rw [h2]; change K _ _ _ _ _ _ _ _ _ _ _ _ _ _ _ _ _ _ (.ref x1 :: _)
  refine callV_V (st := []) B [] (hc) (cwV 0 B.1.2.2.2.2 (gV qlRX11_412 qiX5_begin qeX5_begin qzRX5 qcX5_begin) rfl rfl rfl (by decide +kernel) ⟨Nat.le_of_ble_eq_true rfl, Nat.le_of_ble_eq_true rfl⟩) rfl rfl (by decide) h3 (Nat.le_of_ble_eq_true rfl) rfl dX11_driveVans_4 ⟨Nat.le_of_ble_eq_true rfl, Nat.le_of_ble_eq_true rfl⟩ (fun S' hp => ?_)
  exact kk S' hp
theorem bX11_driveVans_7 (B : Bd p s m args meth c cX11_driveVans 2 (wsOf yX11_driveVans cX11_driveVans 2 none) RX11 w none "driveVans") {v0 : Nat} {Q : State → Prop}  (kk : K p l e rX11_driveVans s m args below meth c 2 w 0 0 Q S 9 [(0, .ref v0), (1, .int 0)] []) : K p l e rX11_driveVans s m args below meth c 2 w 0 0 Q S 7 [(0, .ref v0)] [] := by
  refine k_iconst (v := 0) B (by decide) dX11_driveVans_7 ?_
  refine k_istore_n (lst' := [(1, .int 0), (0, .ref v0)]) B rfl (by decide) rfl dX11_driveVans_8 ?_
  refine k_sub [1, 0] rfl ?_
  exact kk
theorem bX11_driveVans_9 (B : Bd p s m args meth c cX11_driveVans 2 (wsOf yX11_driveVans cX11_driveVans 2 none) RX11 w none "driveVans") {v0 : Nat} {v1 : Int32} {x1 : Nat} {post : Int32 → St → Prop} {Q : State → Prop} (h1 : kd S v0 = 13) (h2 : gP S 771 v0 = some x1) (hc : ConI l yJx4a65c_size_8abf5 (wsOf yJx4a65c_size_8abf5 cJx4a65c_size_8abf5 1 (some .int)) rJx4a65c_size_8abf5 w S [.ref x1] post) (h3 : kd S x1 = 1) (kk : ∀ (r : Int32) (S' : St), post r S' → K p l e rX11_driveVans s m args below meth c 2 w 0 0 Q S' 17 [(0, .ref v0), (1, .int v1)] [.int r, .int v1]) : K p l e rX11_driveVans s m args below meth c 2 w 0 0 Q S 9 [(0, .ref v0), (1, .int v1)] [] := by
  refine k_iload_n B 1 rfl rfl dX11_driveVans_9 ?_
  refine k_aload_n B 0 rfl rfl dX11_driveVans_10 ?_
  refine k_getP (f := 771) (r := gP S 771 v0) B 12 3 rfl (by decide) rfl (by decide) rfl rfl (fun w h => in_of (uw_12 w h)) (in_of qfRX11_26) dX11_driveVans_11 h1 rfl ?_
  rw [h2]; change K _ _ _ _ _ _ _ _ _ _ _ _ _ _ _ _ _ _ (.ref x1 :: _)
  refine callV_I (st := [.int v1]) B [] (hc) (cwV 0 B.1.2.2.2.2 (gV qlRX11_101 qiJx4a65c_size_8abf5 qeJx4a65c_size_8abf5 qzRJx4a65c qcJx4a65c_size_8abf5) rfl rfl rfl (by decide +kernel) ⟨Nat.le_of_ble_eq_true rfl, Nat.le_of_ble_eq_true rfl⟩) rfl rfl (by decide) h3 (Nat.le_of_ble_eq_true rfl) rfl dX11_driveVans_14 ⟨Nat.le_of_ble_eq_true rfl, Nat.le_of_ble_eq_true rfl⟩ (fun r S' hp => ?_)
  exact kk r S' hp
theorem bX11_driveVans_17 (B : Bd p s m args meth c cX11_driveVans 2 (wsOf yX11_driveVans cX11_driveVans 2 none) RX11 w none "driveVans") {v0 : Nat} {v1 : Int32} {t0 : Int32} {t1 : Int32} {Q : State → Prop}  (kt : t1 ≤ t0 → K p l e rX11_driveVans s m args below meth c 2 w 0 0 Q S 44 [(0, .ref v0)] []) (kf : ¬ t1 ≤ t0 → K p l e rX11_driveVans s m args below meth c 2 w 0 0 Q S 20 [(0, .ref v0), (1, .int v1)] []) : K p l e rX11_driveVans s m args below meth c 2 w 0 0 Q S 17 [(0, .ref v0), (1, .int v1)] [.int t1, .int t0] := by
  refine k_icmp_ge (tgt := 44) B dX11_driveVans_17 (by decide) (fun c => ?_) (fun c => ?_)
  · refine k_sub [0] rfl ?_
    exact kt c
  · exact kf c
theorem bX11_driveVans_20 (B : Bd p s m args meth c cX11_driveVans 2 (wsOf yX11_driveVans cX11_driveVans 2 none) RX11 w none "driveVans") {v0 : Nat} {v1 : Int32} {x1 : Nat} {x2 : Nat} {post : Nat → St → Prop} {Q : State → Prop} (h1 : kd S v0 = 13) (h2 : gP S 774 v0 = some x1) (h3 : gP S 771 v0 = some x2) (hc : ConR l yJx4a65c_get_915e3 (wsOf yJx4a65c_get_915e3 cJx4a65c_get_915e3 2 (some (.object "java/lang/Object"))) rJx4a65c_get_915e3 w S [.ref x2, .int v1] post) (h4 : kd S x2 = 1) (kk : ∀ (r : Nat) (S' : St), post r S' → K p l e rX11_driveVans s m args below meth c 2 w 0 0 Q S' 32 [(0, .ref v0), (1, .int v1)] [.ref r, .ref x1]) : K p l e rX11_driveVans s m args below meth c 2 w 0 0 Q S 20 [(0, .ref v0), (1, .int v1)] [] := by
  refine k_aload_n B 0 rfl rfl dX11_driveVans_20 ?_
  refine k_getP (f := 774) (r := gP S 774 v0) B 12 6 rfl (by decide) rfl (by decide) rfl rfl (fun w h => in_of (uw_12 w h)) (in_of qfRX11_46) dX11_driveVans_21 h1 rfl ?_
  rw [h2]; change K _ _ _ _ _ _ _ _ _ _ _ _ _ _ _ _ _ _ (.ref x1 :: _)
  refine k_aload_n B 0 rfl rfl dX11_driveVans_24 ?_
  refine k_getP (f := 771) (r := gP S 771 v0) B 12 3 rfl (by decide) rfl (by decide) rfl rfl (fun w h => in_of (uw_12 w h)) (in_of qfRX11_26) dX11_driveVans_25 h1 rfl ?_
  rw [h3]; change K _ _ _ _ _ _ _ _ _ _ _ _ _ _ _ _ _ _ (.ref x2 :: _)
  refine k_iload_n B 1 rfl rfl dX11_driveVans_28 ?_
  refine callV_R (st := [.ref x1]) B [.int v1] (hc) (cwV 1 B.1.2.2.2.2 (gV qlRX11_124 qiJx4a65c_get_915e3 qeJx4a65c_get_915e3 qzRJx4a65c qcJx4a65c_get_915e3) rfl rfl rfl (by decide +kernel) ⟨Nat.le_of_ble_eq_true rfl, Nat.le_of_ble_eq_true rfl⟩) rfl rfl (by decide) h4 (Nat.le_of_ble_eq_true rfl) rfl dX11_driveVans_29 ⟨Nat.le_of_ble_eq_true rfl, Nat.le_of_ble_eq_true rfl⟩ (fun r S' hp => ?_)
  exact kk r S' hp
theorem bX11_driveVans_32 (B : Bd p s m args meth c cX11_driveVans 2 (wsOf yX11_driveVans cX11_driveVans 2 none) RX11 w none "driveVans") {v0 : Nat} {v1 : Int32} {t0 : Nat} {t1 : Nat} {post : St → Prop} {Q : State → Prop} (h1 : kd S t1 = 12) (hc : ConV l yX5_driveVan (wsOf yX5_driveVan cX5_driveVan 4 none) rX5_driveVan w S [.ref t0, .ref t1] post) (h2 : kd S t0 = 7) (kk : ∀ (S' : St), post S' → K p l e rX11_driveVans s m args below meth c 2 w 0 0 Q S' 38 [(0, .ref v0), (1, .int v1)] []) : K p l e rX11_driveVans s m args below meth c 2 w 0 0 Q S 32 [(0, .ref v0), (1, .int v1)] [.ref t1, .ref t0] := by
  refine k_cast B 11 rfl (by decide) (in_of qkRX11_139) dX11_driveVans_32 h1 ?_
  refine callV_V (st := []) B [.ref t1] (hc) (cwV 1 B.1.2.2.2.2 (gV qlRX11_415 qiX5_driveVan qeX5_driveVan qzRX5 qcX5_driveVan) rfl rfl rfl (by decide +kernel) ⟨Nat.le_of_ble_eq_true rfl, Nat.le_of_ble_eq_true rfl⟩) rfl rfl (by decide) h2 (Nat.le_of_ble_eq_true rfl) rfl dX11_driveVans_35 ⟨Nat.le_of_ble_eq_true rfl, Nat.le_of_ble_eq_true rfl⟩ (fun S' hp => ?_)
  exact kk S' hp
theorem bX11_driveVans_38 (B : Bd p s m args meth c cX11_driveVans 2 (wsOf yX11_driveVans cX11_driveVans 2 none) RX11 w none "driveVans") {v0 : Nat} {v1 : Int32} {Q : State → Prop}  (kk : K p l e rX11_driveVans s m args below meth c 2 w 0 0 Q S 9 [(0, .ref v0), (1, .int (v1 + 1))] []) : K p l e rX11_driveVans s m args below meth c 2 w 0 0 Q S 38 [(0, .ref v0), (1, .int v1)] [] := by
  refine k_iinc (v := v1 + 1) (lst' := [(1, .int (v1 + 1)), (0, .ref v0)]) B 1 rfl rfl (by decide) rfl dX11_driveVans_38 ?_
  refine k_goto (tgt := 9) B dX11_driveVans_41 (by decide) ?_
  refine k_sub [1, 0] rfl ?_
  exact kk
theorem bX11_driveVans_44 (B : Bd p s m args meth c cX11_driveVans 2 (wsOf yX11_driveVans cX11_driveVans 2 none) RX11 w none "driveVans") {v0 : Nat} {Q : State → Prop}  (kk : K p l e rX11_driveVans s m args below meth c 2 w 0 0 Q S 46 [(0, .ref v0), (1, .int 0)] []) : K p l e rX11_driveVans s m args below meth c 2 w 0 0 Q S 44 [(0, .ref v0)] [] := by
  refine k_iconst (v := 0) B (by decide) dX11_driveVans_44 ?_
  refine k_istore_n (lst' := [(1, .int 0), (0, .ref v0)]) B rfl (by decide) rfl dX11_driveVans_45 ?_
  refine k_sub [1, 0] rfl ?_
  exact kk
theorem bX11_driveVans_46 (B : Bd p s m args meth c cX11_driveVans 2 (wsOf yX11_driveVans cX11_driveVans 2 none) RX11 w none "driveVans") {v0 : Nat} {v1 : Int32} {x1 : Nat} {post : Int32 → St → Prop} {Q : State → Prop} (h1 : kd S v0 = 13) (h2 : gP S 772 v0 = some x1) (hc : ConI l yJx4a65c_size_8abf5 (wsOf yJx4a65c_size_8abf5 cJx4a65c_size_8abf5 1 (some .int)) rJx4a65c_size_8abf5 w S [.ref x1] post) (h3 : kd S x1 = 1) (kk : ∀ (r : Int32) (S' : St), post r S' → K p l e rX11_driveVans s m args below meth c 2 w 0 0 Q S' 54 [(0, .ref v0), (1, .int v1)] [.int r, .int v1]) : K p l e rX11_driveVans s m args below meth c 2 w 0 0 Q S 46 [(0, .ref v0), (1, .int v1)] [] := by
  refine k_iload_n B 1 rfl rfl dX11_driveVans_46 ?_
  refine k_aload_n B 0 rfl rfl dX11_driveVans_47 ?_
  refine k_getP (f := 772) (r := gP S 772 v0) B 12 4 rfl (by decide) rfl (by decide) rfl rfl (fun w h => in_of (uw_12 w h)) (in_of qfRX11_29) dX11_driveVans_48 h1 rfl ?_
  rw [h2]; change K _ _ _ _ _ _ _ _ _ _ _ _ _ _ _ _ _ _ (.ref x1 :: _)
  refine callV_I (st := [.int v1]) B [] (hc) (cwV 0 B.1.2.2.2.2 (gV qlRX11_101 qiJx4a65c_size_8abf5 qeJx4a65c_size_8abf5 qzRJx4a65c qcJx4a65c_size_8abf5) rfl rfl rfl (by decide +kernel) ⟨Nat.le_of_ble_eq_true rfl, Nat.le_of_ble_eq_true rfl⟩) rfl rfl (by decide) h3 (Nat.le_of_ble_eq_true rfl) rfl dX11_driveVans_51 ⟨Nat.le_of_ble_eq_true rfl, Nat.le_of_ble_eq_true rfl⟩ (fun r S' hp => ?_)
  exact kk r S' hp
theorem bX11_driveVans_54 (B : Bd p s m args meth c cX11_driveVans 2 (wsOf yX11_driveVans cX11_driveVans 2 none) RX11 w none "driveVans") {v0 : Nat} {v1 : Int32} {t0 : Int32} {t1 : Int32} {Q : State → Prop}  (kt : t1 ≤ t0 → K p l e rX11_driveVans s m args below meth c 2 w 0 0 Q S 81 [] []) (kf : ¬ t1 ≤ t0 → K p l e rX11_driveVans s m args below meth c 2 w 0 0 Q S 57 [(0, .ref v0), (1, .int v1)] []) : K p l e rX11_driveVans s m args below meth c 2 w 0 0 Q S 54 [(0, .ref v0), (1, .int v1)] [.int t1, .int t0] := by
  refine k_icmp_ge (tgt := 81) B dX11_driveVans_54 (by decide) (fun c => ?_) (fun c => ?_)
  · refine k_sub [] rfl ?_
    exact kt c
  · exact kf c
theorem bX11_driveVans_57 (B : Bd p s m args meth c cX11_driveVans 2 (wsOf yX11_driveVans cX11_driveVans 2 none) RX11 w none "driveVans") {v0 : Nat} {v1 : Int32} {x1 : Nat} {x2 : Nat} {post : Nat → St → Prop} {Q : State → Prop} (h1 : kd S v0 = 13) (h2 : gP S 774 v0 = some x1) (h3 : gP S 772 v0 = some x2) (hc : ConR l yJx4a65c_get_915e3 (wsOf yJx4a65c_get_915e3 cJx4a65c_get_915e3 2 (some (.object "java/lang/Object"))) rJx4a65c_get_915e3 w S [.ref x2, .int v1] post) (h4 : kd S x2 = 1) (kk : ∀ (r : Nat) (S' : St), post r S' → K p l e rX11_driveVans s m args below meth c 2 w 0 0 Q S' 69 [(0, .ref v0), (1, .int v1)] [.ref r, .ref x1]) : K p l e rX11_driveVans s m args below meth c 2 w 0 0 Q S 57 [(0, .ref v0), (1, .int v1)] [] := by
  refine k_aload_n B 0 rfl rfl dX11_driveVans_57 ?_
  refine k_getP (f := 774) (r := gP S 774 v0) B 12 6 rfl (by decide) rfl (by decide) rfl rfl (fun w h => in_of (uw_12 w h)) (in_of qfRX11_46) dX11_driveVans_58 h1 rfl ?_
  rw [h2]; change K _ _ _ _ _ _ _ _ _ _ _ _ _ _ _ _ _ _ (.ref x1 :: _)
  refine k_aload_n B 0 rfl rfl dX11_driveVans_61 ?_
  refine k_getP (f := 772) (r := gP S 772 v0) B 12 4 rfl (by decide) rfl (by decide) rfl rfl (fun w h => in_of (uw_12 w h)) (in_of qfRX11_29) dX11_driveVans_62 h1 rfl ?_
  rw [h3]; change K _ _ _ _ _ _ _ _ _ _ _ _ _ _ _ _ _ _ (.ref x2 :: _)
  refine k_iload_n B 1 rfl rfl dX11_driveVans_65 ?_
  refine callV_R (st := [.ref x1]) B [.int v1] (hc) (cwV 1 B.1.2.2.2.2 (gV qlRX11_124 qiJx4a65c_get_915e3 qeJx4a65c_get_915e3 qzRJx4a65c qcJx4a65c_get_915e3) rfl rfl rfl (by decide +kernel) ⟨Nat.le_of_ble_eq_true rfl, Nat.le_of_ble_eq_true rfl⟩) rfl rfl (by decide) h4 (Nat.le_of_ble_eq_true rfl) rfl dX11_driveVans_66 ⟨Nat.le_of_ble_eq_true rfl, Nat.le_of_ble_eq_true rfl⟩ (fun r S' hp => ?_)
  exact kk r S' hp
theorem bX11_driveVans_69 (B : Bd p s m args meth c cX11_driveVans 2 (wsOf yX11_driveVans cX11_driveVans 2 none) RX11 w none "driveVans") {v0 : Nat} {v1 : Int32} {t0 : Nat} {t1 : Nat} {post : St → Prop} {Q : State → Prop} (h1 : kd S t1 = 5) (hc : ConV l yX5_endDay (wsOf yX5_endDay cX5_endDay 3 none) rX5_endDay w S [.ref t0, .ref t1] post) (h2 : kd S t0 = 7) (kk : ∀ (S' : St), post S' → K p l e rX11_driveVans s m args below meth c 2 w 0 0 Q S' 75 [(0, .ref v0), (1, .int v1)] []) : K p l e rX11_driveVans s m args below meth c 2 w 0 0 Q S 69 [(0, .ref v0), (1, .int v1)] [.ref t1, .ref t0] := by
  refine k_cast B 4 rfl (by decide) (in_of qkRX11_144) dX11_driveVans_69 h1 ?_
  refine callV_V (st := []) B [.ref t1] (hc) (cwV 1 B.1.2.2.2.2 (gV qlRX11_419 qiX5_endDay qeX5_endDay qzRX5 qcX5_endDay) rfl rfl rfl (by decide +kernel) ⟨Nat.le_of_ble_eq_true rfl, Nat.le_of_ble_eq_true rfl⟩) rfl rfl (by decide) h2 (Nat.le_of_ble_eq_true rfl) rfl dX11_driveVans_72 ⟨Nat.le_of_ble_eq_true rfl, Nat.le_of_ble_eq_true rfl⟩ (fun S' hp => ?_)
  exact kk S' hp
theorem bX11_driveVans_75 (B : Bd p s m args meth c cX11_driveVans 2 (wsOf yX11_driveVans cX11_driveVans 2 none) RX11 w none "driveVans") {v0 : Nat} {v1 : Int32} {Q : State → Prop}  (kk : K p l e rX11_driveVans s m args below meth c 2 w 0 0 Q S 46 [(0, .ref v0), (1, .int (v1 + 1))] []) : K p l e rX11_driveVans s m args below meth c 2 w 0 0 Q S 75 [(0, .ref v0), (1, .int v1)] [] := by
  refine k_iinc (v := v1 + 1) (lst' := [(1, .int (v1 + 1)), (0, .ref v0)]) B 1 rfl rfl (by decide) rfl dX11_driveVans_75 ?_
  refine k_goto (tgt := 46) B dX11_driveVans_78 (by decide) ?_
  refine k_sub [1, 0] rfl ?_
  exact kk
theorem bX11_driveVans_81 (B : Bd p s m args meth c cX11_driveVans 2 (wsOf yX11_driveVans cX11_driveVans 2 none) RX11 w none "driveVans") {post : St → Prop}  (hq : post S) : K p l e rX11_driveVans s m args below meth c 2 w 0 0 (MQ below (va_Qv post (fun S' t => Hd w S' t.heap) (wA w)) args s 0 0 (wA w)) S 81 [] [] := by
  exact ret_V B rfl dX11_driveVans_81 (hq)
theorem bX11_keepAll_0 (B : Bd p s m args meth c cX11_keepAll 2 (wsOf yX11_keepAll cX11_keepAll 2 none) RX11 w none "keepAll") {v0 : Nat} {Q : State → Prop}  (kk : K p l e rX11_keepAll s m args below meth c 2 w 0 0 Q S 2 [(0, .ref v0), (1, .int 0)] []) : K p l e rX11_keepAll s m args below meth c 2 w 0 0 Q S 0 [(0, .ref v0)] [] := by
  refine k_iconst (v := 0) B (by decide) dX11_keepAll_0 ?_
  refine k_istore_n (lst' := [(1, .int 0), (0, .ref v0)]) B rfl (by decide) rfl dX11_keepAll_1 ?_
  refine k_sub [1, 0] rfl ?_
  exact kk
theorem bX11_keepAll_2 (B : Bd p s m args meth c cX11_keepAll 2 (wsOf yX11_keepAll cX11_keepAll 2 none) RX11 w none "keepAll") {v0 : Nat} {v1 : Int32} {x1 : Nat} {post : Int32 → St → Prop} {Q : State → Prop} (h1 : kd S v0 = 13) (h2 : gP S 772 v0 = some x1) (hc : ConI l yJx4a65c_size_8abf5 (wsOf yJx4a65c_size_8abf5 cJx4a65c_size_8abf5 1 (some .int)) rJx4a65c_size_8abf5 w S [.ref x1] post) (h3 : kd S x1 = 1) (kk : ∀ (r : Int32) (S' : St), post r S' → K p l e rX11_keepAll s m args below meth c 2 w 0 0 Q S' 10 [(0, .ref v0), (1, .int v1)] [.int r, .int v1]) : K p l e rX11_keepAll s m args below meth c 2 w 0 0 Q S 2 [(0, .ref v0), (1, .int v1)] [] := by
  refine k_iload_n B 1 rfl rfl dX11_keepAll_2 ?_
  refine k_aload_n B 0 rfl rfl dX11_keepAll_3 ?_
  refine k_getP (f := 772) (r := gP S 772 v0) B 12 4 rfl (by decide) rfl (by decide) rfl rfl (fun w h => in_of (uw_12 w h)) (in_of qfRX11_29) dX11_keepAll_4 h1 rfl ?_
  rw [h2]; change K _ _ _ _ _ _ _ _ _ _ _ _ _ _ _ _ _ _ (.ref x1 :: _)
  refine callV_I (st := [.int v1]) B [] (hc) (cwV 0 B.1.2.2.2.2 (gV qlRX11_101 qiJx4a65c_size_8abf5 qeJx4a65c_size_8abf5 qzRJx4a65c qcJx4a65c_size_8abf5) rfl rfl rfl (by decide +kernel) ⟨Nat.le_of_ble_eq_true rfl, Nat.le_of_ble_eq_true rfl⟩) rfl rfl (by decide) h3 (Nat.le_of_ble_eq_true rfl) rfl dX11_keepAll_7 ⟨Nat.le_of_ble_eq_true rfl, Nat.le_of_ble_eq_true rfl⟩ (fun r S' hp => ?_)
  exact kk r S' hp
theorem bX11_keepAll_10 (B : Bd p s m args meth c cX11_keepAll 2 (wsOf yX11_keepAll cX11_keepAll 2 none) RX11 w none "keepAll") {v0 : Nat} {v1 : Int32} {t0 : Int32} {t1 : Int32} {Q : State → Prop}  (kt : t1 ≤ t0 → K p l e rX11_keepAll s m args below meth c 2 w 0 0 Q S 33 [(0, .ref v0)] []) (kf : ¬ t1 ≤ t0 → K p l e rX11_keepAll s m args below meth c 2 w 0 0 Q S 13 [(0, .ref v0), (1, .int v1)] []) : K p l e rX11_keepAll s m args below meth c 2 w 0 0 Q S 10 [(0, .ref v0), (1, .int v1)] [.int t1, .int t0] := by
  refine k_icmp_ge (tgt := 33) B dX11_keepAll_10 (by decide) (fun c => ?_) (fun c => ?_)
  · refine k_sub [0] rfl ?_
    exact kt c
  · exact kf c
theorem bX11_keepAll_13 (B : Bd p s m args meth c cX11_keepAll 2 (wsOf yX11_keepAll cX11_keepAll 2 none) RX11 w none "keepAll") {v0 : Nat} {v1 : Int32} {x1 : Nat} {post : Nat → St → Prop} {Q : State → Prop} (h1 : kd S v0 = 13) (h2 : gP S 772 v0 = some x1) (hc : ConR l yJx4a65c_get_915e3 (wsOf yJx4a65c_get_915e3 cJx4a65c_get_915e3 2 (some (.object "java/lang/Object"))) rJx4a65c_get_915e3 w S [.ref x1, .int v1] post) (h3 : kd S x1 = 1) (kk : ∀ (r : Nat) (S' : St), post r S' → K p l e rX11_keepAll s m args below meth c 2 w 0 0 Q S' 21 [(0, .ref v0), (1, .int v1)] [.ref r]) : K p l e rX11_keepAll s m args below meth c 2 w 0 0 Q S 13 [(0, .ref v0), (1, .int v1)] [] := by
  refine k_aload_n B 0 rfl rfl dX11_keepAll_13 ?_
  refine k_getP (f := 772) (r := gP S 772 v0) B 12 4 rfl (by decide) rfl (by decide) rfl rfl (fun w h => in_of (uw_12 w h)) (in_of qfRX11_29) dX11_keepAll_14 h1 rfl ?_
  rw [h2]; change K _ _ _ _ _ _ _ _ _ _ _ _ _ _ _ _ _ _ (.ref x1 :: _)
  refine k_iload_n B 1 rfl rfl dX11_keepAll_17 ?_
  refine callV_R (st := []) B [.int v1] (hc) (cwV 1 B.1.2.2.2.2 (gV qlRX11_124 qiJx4a65c_get_915e3 qeJx4a65c_get_915e3 qzRJx4a65c qcJx4a65c_get_915e3) rfl rfl rfl (by decide +kernel) ⟨Nat.le_of_ble_eq_true rfl, Nat.le_of_ble_eq_true rfl⟩) rfl rfl (by decide) h3 (Nat.le_of_ble_eq_true rfl) rfl dX11_keepAll_18 ⟨Nat.le_of_ble_eq_true rfl, Nat.le_of_ble_eq_true rfl⟩ (fun r S' hp => ?_)
  exact kk r S' hp
theorem bX11_keepAll_21 (B : Bd p s m args meth c cX11_keepAll 2 (wsOf yX11_keepAll cX11_keepAll 2 none) RX11 w none "keepAll") {v0 : Nat} {v1 : Int32} {t0 : Nat} {post : St → Prop} {Q : State → Prop} (h1 : kd S t0 = 5) (hc : ConV l yX3_keep (wsOf yX3_keep cX3_keep 1 none) rX3_keep w S [.ref t0] post) (kk : ∀ (S' : St), post S' → K p l e rX11_keepAll s m args below meth c 2 w 0 0 Q S' 27 [(0, .ref v0), (1, .int v1)] []) : K p l e rX11_keepAll s m args below meth c 2 w 0 0 Q S 21 [(0, .ref v0), (1, .int v1)] [.ref t0] := by
  refine k_cast B 4 rfl (by decide) (in_of qkRX11_144) dX11_keepAll_21 h1 ?_
  refine callV_V (st := []) B [] (hc) (cwV 0 B.1.2.2.2.2 (gV qlRX11_422 qiX3_keep qeX3_keep qzRX3 qcX3_keep) rfl rfl rfl (by decide +kernel) ⟨Nat.le_of_ble_eq_true rfl, Nat.le_of_ble_eq_true rfl⟩) rfl rfl (by decide) h1 (Nat.le_of_ble_eq_true rfl) rfl dX11_keepAll_24 ⟨Nat.le_of_ble_eq_true rfl, Nat.le_of_ble_eq_true rfl⟩ (fun S' hp => ?_)
  exact kk S' hp
theorem bX11_keepAll_27 (B : Bd p s m args meth c cX11_keepAll 2 (wsOf yX11_keepAll cX11_keepAll 2 none) RX11 w none "keepAll") {v0 : Nat} {v1 : Int32} {Q : State → Prop}  (kk : K p l e rX11_keepAll s m args below meth c 2 w 0 0 Q S 2 [(0, .ref v0), (1, .int (v1 + 1))] []) : K p l e rX11_keepAll s m args below meth c 2 w 0 0 Q S 27 [(0, .ref v0), (1, .int v1)] [] := by
  refine k_iinc (v := v1 + 1) (lst' := [(1, .int (v1 + 1)), (0, .ref v0)]) B 1 rfl rfl (by decide) rfl dX11_keepAll_27 ?_
  refine k_goto (tgt := 2) B dX11_keepAll_30 (by decide) ?_
  refine k_sub [1, 0] rfl ?_
  exact kk
theorem bX11_keepAll_33 (B : Bd p s m args meth c cX11_keepAll 2 (wsOf yX11_keepAll cX11_keepAll 2 none) RX11 w none "keepAll") {v0 : Nat} {Q : State → Prop}  (kk : K p l e rX11_keepAll s m args below meth c 2 w 0 0 Q S 35 [(0, .ref v0), (1, .int 0)] []) : K p l e rX11_keepAll s m args below meth c 2 w 0 0 Q S 33 [(0, .ref v0)] [] := by
  refine k_iconst (v := 0) B (by decide) dX11_keepAll_33 ?_
  refine k_istore_n (lst' := [(1, .int 0), (0, .ref v0)]) B rfl (by decide) rfl dX11_keepAll_34 ?_
  refine k_sub [1, 0] rfl ?_
  exact kk
theorem bX11_keepAll_35 (B : Bd p s m args meth c cX11_keepAll 2 (wsOf yX11_keepAll cX11_keepAll 2 none) RX11 w none "keepAll") {v0 : Nat} {v1 : Int32} {x1 : Nat} {post : Int32 → St → Prop} {Q : State → Prop} (h1 : kd S v0 = 13) (h2 : gP S 770 v0 = some x1) (hc : ConI l yJx4a65c_size_8abf5 (wsOf yJx4a65c_size_8abf5 cJx4a65c_size_8abf5 1 (some .int)) rJx4a65c_size_8abf5 w S [.ref x1] post) (h3 : kd S x1 = 1) (kk : ∀ (r : Int32) (S' : St), post r S' → K p l e rX11_keepAll s m args below meth c 2 w 0 0 Q S' 43 [(0, .ref v0), (1, .int v1)] [.int r, .int v1]) : K p l e rX11_keepAll s m args below meth c 2 w 0 0 Q S 35 [(0, .ref v0), (1, .int v1)] [] := by
  refine k_iload_n B 1 rfl rfl dX11_keepAll_35 ?_
  refine k_aload_n B 0 rfl rfl dX11_keepAll_36 ?_
  refine k_getP (f := 770) (r := gP S 770 v0) B 12 2 rfl (by decide) rfl (by decide) rfl rfl (fun w h => in_of (uw_12 w h)) (in_of qfRX11_23) dX11_keepAll_37 h1 rfl ?_
  rw [h2]; change K _ _ _ _ _ _ _ _ _ _ _ _ _ _ _ _ _ _ (.ref x1 :: _)
  refine callV_I (st := [.int v1]) B [] (hc) (cwV 0 B.1.2.2.2.2 (gV qlRX11_101 qiJx4a65c_size_8abf5 qeJx4a65c_size_8abf5 qzRJx4a65c qcJx4a65c_size_8abf5) rfl rfl rfl (by decide +kernel) ⟨Nat.le_of_ble_eq_true rfl, Nat.le_of_ble_eq_true rfl⟩) rfl rfl (by decide) h3 (Nat.le_of_ble_eq_true rfl) rfl dX11_keepAll_40 ⟨Nat.le_of_ble_eq_true rfl, Nat.le_of_ble_eq_true rfl⟩ (fun r S' hp => ?_)
  exact kk r S' hp
theorem bX11_keepAll_43 (B : Bd p s m args meth c cX11_keepAll 2 (wsOf yX11_keepAll cX11_keepAll 2 none) RX11 w none "keepAll") {v0 : Nat} {v1 : Int32} {t0 : Int32} {t1 : Int32} {Q : State → Prop}  (kt : t1 ≤ t0 → K p l e rX11_keepAll s m args below meth c 2 w 0 0 Q S 66 [] []) (kf : ¬ t1 ≤ t0 → K p l e rX11_keepAll s m args below meth c 2 w 0 0 Q S 46 [(0, .ref v0), (1, .int v1)] []) : K p l e rX11_keepAll s m args below meth c 2 w 0 0 Q S 43 [(0, .ref v0), (1, .int v1)] [.int t1, .int t0] := by
  refine k_icmp_ge (tgt := 66) B dX11_keepAll_43 (by decide) (fun c => ?_) (fun c => ?_)
  · refine k_sub [] rfl ?_
    exact kt c
  · exact kf c
theorem bX11_keepAll_46 (B : Bd p s m args meth c cX11_keepAll 2 (wsOf yX11_keepAll cX11_keepAll 2 none) RX11 w none "keepAll") {v0 : Nat} {v1 : Int32} {x1 : Nat} {post : Nat → St → Prop} {Q : State → Prop} (h1 : kd S v0 = 13) (h2 : gP S 770 v0 = some x1) (hc : ConR l yJx4a65c_get_915e3 (wsOf yJx4a65c_get_915e3 cJx4a65c_get_915e3 2 (some (.object "java/lang/Object"))) rJx4a65c_get_915e3 w S [.ref x1, .int v1] post) (h3 : kd S x1 = 1) (kk : ∀ (r : Nat) (S' : St), post r S' → K p l e rX11_keepAll s m args below meth c 2 w 0 0 Q S' 54 [(0, .ref v0), (1, .int v1)] [.ref r]) : K p l e rX11_keepAll s m args below meth c 2 w 0 0 Q S 46 [(0, .ref v0), (1, .int v1)] [] := by
  refine k_aload_n B 0 rfl rfl dX11_keepAll_46 ?_
  refine k_getP (f := 770) (r := gP S 770 v0) B 12 2 rfl (by decide) rfl (by decide) rfl rfl (fun w h => in_of (uw_12 w h)) (in_of qfRX11_23) dX11_keepAll_47 h1 rfl ?_
  rw [h2]; change K _ _ _ _ _ _ _ _ _ _ _ _ _ _ _ _ _ _ (.ref x1 :: _)
  refine k_iload_n B 1 rfl rfl dX11_keepAll_50 ?_
  refine callV_R (st := []) B [.int v1] (hc) (cwV 1 B.1.2.2.2.2 (gV qlRX11_124 qiJx4a65c_get_915e3 qeJx4a65c_get_915e3 qzRJx4a65c qcJx4a65c_get_915e3) rfl rfl rfl (by decide +kernel) ⟨Nat.le_of_ble_eq_true rfl, Nat.le_of_ble_eq_true rfl⟩) rfl rfl (by decide) h3 (Nat.le_of_ble_eq_true rfl) rfl dX11_keepAll_51 ⟨Nat.le_of_ble_eq_true rfl, Nat.le_of_ble_eq_true rfl⟩ (fun r S' hp => ?_)
  exact kk r S' hp
theorem bX11_keepAll_54 (B : Bd p s m args meth c cX11_keepAll 2 (wsOf yX11_keepAll cX11_keepAll 2 none) RX11 w none "keepAll") {v0 : Nat} {v1 : Int32} {t0 : Nat} {post : St → Prop} {Q : State → Prop} (h1 : kd S t0 = 4) (hc : ConV l yX2_keep (wsOf yX2_keep cX2_keep 1 none) rX2_keep w S [.ref t0] post) (kk : ∀ (S' : St), post S' → K p l e rX11_keepAll s m args below meth c 2 w 0 0 Q S' 60 [(0, .ref v0), (1, .int v1)] []) : K p l e rX11_keepAll s m args below meth c 2 w 0 0 Q S 54 [(0, .ref v0), (1, .int v1)] [.ref t0] := by
  refine k_cast B 3 rfl (by decide) (in_of qkRX11_134) dX11_keepAll_54 h1 ?_
  refine callV_V (st := []) B [] (hc) (cwV 0 B.1.2.2.2.2 (gV qlRX11_425 qiX2_keep qeX2_keep qzRX2 qcX2_keep) rfl rfl rfl (by decide +kernel) ⟨Nat.le_of_ble_eq_true rfl, Nat.le_of_ble_eq_true rfl⟩) rfl rfl (by decide) h1 (Nat.le_of_ble_eq_true rfl) rfl dX11_keepAll_57 ⟨Nat.le_of_ble_eq_true rfl, Nat.le_of_ble_eq_true rfl⟩ (fun S' hp => ?_)
  exact kk S' hp
theorem bX11_keepAll_60 (B : Bd p s m args meth c cX11_keepAll 2 (wsOf yX11_keepAll cX11_keepAll 2 none) RX11 w none "keepAll") {v0 : Nat} {v1 : Int32} {Q : State → Prop}  (kk : K p l e rX11_keepAll s m args below meth c 2 w 0 0 Q S 35 [(0, .ref v0), (1, .int (v1 + 1))] []) : K p l e rX11_keepAll s m args below meth c 2 w 0 0 Q S 60 [(0, .ref v0), (1, .int v1)] [] := by
  refine k_iinc (v := v1 + 1) (lst' := [(1, .int (v1 + 1)), (0, .ref v0)]) B 1 rfl rfl (by decide) rfl dX11_keepAll_60 ?_
  refine k_goto (tgt := 35) B dX11_keepAll_63 (by decide) ?_
  refine k_sub [1, 0] rfl ?_
  exact kk
theorem bX11_keepAll_66 (B : Bd p s m args meth c cX11_keepAll 2 (wsOf yX11_keepAll cX11_keepAll 2 none) RX11 w none "keepAll") {post : St → Prop}  (hq : post S) : K p l e rX11_keepAll s m args below meth c 2 w 0 0 (MQ below (va_Qv post (fun S' t => Hd w S' t.heap) (wA w)) args s 0 0 (wA w)) S 66 [] [] := by
  exact ret_V B rfl dX11_keepAll_66 (hq)
theorem bX11_giveBackAll_0 (B : Bd p s m args meth c cX11_giveBackAll 2 (wsOf yX11_giveBackAll cX11_giveBackAll 2 none) RX11 w none "giveBackAll") {v0 : Nat} {Q : State → Prop}  (kk : K p l e rX11_giveBackAll s m args below meth c 2 w 0 0 Q S 2 [(0, .ref v0), (1, .int 0)] []) : K p l e rX11_giveBackAll s m args below meth c 2 w 0 0 Q S 0 [(0, .ref v0)] [] := by
  refine k_iconst (v := 0) B (by decide) dX11_giveBackAll_0 ?_
  refine k_istore_n (lst' := [(1, .int 0), (0, .ref v0)]) B rfl (by decide) rfl dX11_giveBackAll_1 ?_
  refine k_sub [1, 0] rfl ?_
  exact kk
theorem bX11_giveBackAll_2 (B : Bd p s m args meth c cX11_giveBackAll 2 (wsOf yX11_giveBackAll cX11_giveBackAll 2 none) RX11 w none "giveBackAll") {v0 : Nat} {v1 : Int32} {x1 : Nat} {post : Int32 → St → Prop} {Q : State → Prop} (h1 : kd S v0 = 13) (h2 : gP S 772 v0 = some x1) (hc : ConI l yJx4a65c_size_8abf5 (wsOf yJx4a65c_size_8abf5 cJx4a65c_size_8abf5 1 (some .int)) rJx4a65c_size_8abf5 w S [.ref x1] post) (h3 : kd S x1 = 1) (kk : ∀ (r : Int32) (S' : St), post r S' → K p l e rX11_giveBackAll s m args below meth c 2 w 0 0 Q S' 10 [(0, .ref v0), (1, .int v1)] [.int r, .int v1]) : K p l e rX11_giveBackAll s m args below meth c 2 w 0 0 Q S 2 [(0, .ref v0), (1, .int v1)] [] := by
  refine k_iload_n B 1 rfl rfl dX11_giveBackAll_2 ?_
  refine k_aload_n B 0 rfl rfl dX11_giveBackAll_3 ?_
  refine k_getP (f := 772) (r := gP S 772 v0) B 12 4 rfl (by decide) rfl (by decide) rfl rfl (fun w h => in_of (uw_12 w h)) (in_of qfRX11_29) dX11_giveBackAll_4 h1 rfl ?_
  rw [h2]; change K _ _ _ _ _ _ _ _ _ _ _ _ _ _ _ _ _ _ (.ref x1 :: _)
  refine callV_I (st := [.int v1]) B [] (hc) (cwV 0 B.1.2.2.2.2 (gV qlRX11_101 qiJx4a65c_size_8abf5 qeJx4a65c_size_8abf5 qzRJx4a65c qcJx4a65c_size_8abf5) rfl rfl rfl (by decide +kernel) ⟨Nat.le_of_ble_eq_true rfl, Nat.le_of_ble_eq_true rfl⟩) rfl rfl (by decide) h3 (Nat.le_of_ble_eq_true rfl) rfl dX11_giveBackAll_7 ⟨Nat.le_of_ble_eq_true rfl, Nat.le_of_ble_eq_true rfl⟩ (fun r S' hp => ?_)
  exact kk r S' hp
theorem bX11_giveBackAll_10 (B : Bd p s m args meth c cX11_giveBackAll 2 (wsOf yX11_giveBackAll cX11_giveBackAll 2 none) RX11 w none "giveBackAll") {v0 : Nat} {v1 : Int32} {t0 : Int32} {t1 : Int32} {Q : State → Prop}  (kt : t1 ≤ t0 → K p l e rX11_giveBackAll s m args below meth c 2 w 0 0 Q S 33 [(0, .ref v0)] []) (kf : ¬ t1 ≤ t0 → K p l e rX11_giveBackAll s m args below meth c 2 w 0 0 Q S 13 [(0, .ref v0), (1, .int v1)] []) : K p l e rX11_giveBackAll s m args below meth c 2 w 0 0 Q S 10 [(0, .ref v0), (1, .int v1)] [.int t1, .int t0] := by
  refine k_icmp_ge (tgt := 33) B dX11_giveBackAll_10 (by decide) (fun c => ?_) (fun c => ?_)
  · refine k_sub [0] rfl ?_
    exact kt c
  · exact kf c
theorem bX11_giveBackAll_13 (B : Bd p s m args meth c cX11_giveBackAll 2 (wsOf yX11_giveBackAll cX11_giveBackAll 2 none) RX11 w none "giveBackAll") {v0 : Nat} {v1 : Int32} {x1 : Nat} {post : Nat → St → Prop} {Q : State → Prop} (h1 : kd S v0 = 13) (h2 : gP S 772 v0 = some x1) (hc : ConR l yJx4a65c_get_915e3 (wsOf yJx4a65c_get_915e3 cJx4a65c_get_915e3 2 (some (.object "java/lang/Object"))) rJx4a65c_get_915e3 w S [.ref x1, .int v1] post) (h3 : kd S x1 = 1) (kk : ∀ (r : Nat) (S' : St), post r S' → K p l e rX11_giveBackAll s m args below meth c 2 w 0 0 Q S' 21 [(0, .ref v0), (1, .int v1)] [.ref r]) : K p l e rX11_giveBackAll s m args below meth c 2 w 0 0 Q S 13 [(0, .ref v0), (1, .int v1)] [] := by
  refine k_aload_n B 0 rfl rfl dX11_giveBackAll_13 ?_
  refine k_getP (f := 772) (r := gP S 772 v0) B 12 4 rfl (by decide) rfl (by decide) rfl rfl (fun w h => in_of (uw_12 w h)) (in_of qfRX11_29) dX11_giveBackAll_14 h1 rfl ?_
  rw [h2]; change K _ _ _ _ _ _ _ _ _ _ _ _ _ _ _ _ _ _ (.ref x1 :: _)
  refine k_iload_n B 1 rfl rfl dX11_giveBackAll_17 ?_
  refine callV_R (st := []) B [.int v1] (hc) (cwV 1 B.1.2.2.2.2 (gV qlRX11_124 qiJx4a65c_get_915e3 qeJx4a65c_get_915e3 qzRJx4a65c qcJx4a65c_get_915e3) rfl rfl rfl (by decide +kernel) ⟨Nat.le_of_ble_eq_true rfl, Nat.le_of_ble_eq_true rfl⟩) rfl rfl (by decide) h3 (Nat.le_of_ble_eq_true rfl) rfl dX11_giveBackAll_18 ⟨Nat.le_of_ble_eq_true rfl, Nat.le_of_ble_eq_true rfl⟩ (fun r S' hp => ?_)
  exact kk r S' hp
theorem bX11_giveBackAll_21 (B : Bd p s m args meth c cX11_giveBackAll 2 (wsOf yX11_giveBackAll cX11_giveBackAll 2 none) RX11 w none "giveBackAll") {v0 : Nat} {v1 : Int32} {t0 : Nat} {post : St → Prop} {Q : State → Prop} (h1 : kd S t0 = 5) (hc : ConV l yX3_giveBack (wsOf yX3_giveBack cX3_giveBack 1 none) rX3_giveBack w S [.ref t0] post) (kk : ∀ (S' : St), post S' → K p l e rX11_giveBackAll s m args below meth c 2 w 0 0 Q S' 27 [(0, .ref v0), (1, .int v1)] []) : K p l e rX11_giveBackAll s m args below meth c 2 w 0 0 Q S 21 [(0, .ref v0), (1, .int v1)] [.ref t0] := by
  refine k_cast B 4 rfl (by decide) (in_of qkRX11_144) dX11_giveBackAll_21 h1 ?_
  refine callV_V (st := []) B [] (hc) (cwV 0 B.1.2.2.2.2 (gV qlRX11_426 qiX3_giveBack qeX3_giveBack qzRX3 qcX3_giveBack) rfl rfl rfl (by decide +kernel) ⟨Nat.le_of_ble_eq_true rfl, Nat.le_of_ble_eq_true rfl⟩) rfl rfl (by decide) h1 (Nat.le_of_ble_eq_true rfl) rfl dX11_giveBackAll_24 ⟨Nat.le_of_ble_eq_true rfl, Nat.le_of_ble_eq_true rfl⟩ (fun S' hp => ?_)
  exact kk S' hp
theorem bX11_giveBackAll_27 (B : Bd p s m args meth c cX11_giveBackAll 2 (wsOf yX11_giveBackAll cX11_giveBackAll 2 none) RX11 w none "giveBackAll") {v0 : Nat} {v1 : Int32} {Q : State → Prop}  (kk : K p l e rX11_giveBackAll s m args below meth c 2 w 0 0 Q S 2 [(0, .ref v0), (1, .int (v1 + 1))] []) : K p l e rX11_giveBackAll s m args below meth c 2 w 0 0 Q S 27 [(0, .ref v0), (1, .int v1)] [] := by
  refine k_iinc (v := v1 + 1) (lst' := [(1, .int (v1 + 1)), (0, .ref v0)]) B 1 rfl rfl (by decide) rfl dX11_giveBackAll_27 ?_
  refine k_goto (tgt := 2) B dX11_giveBackAll_30 (by decide) ?_
  refine k_sub [1, 0] rfl ?_
  exact kk
theorem bX11_giveBackAll_33 (B : Bd p s m args meth c cX11_giveBackAll 2 (wsOf yX11_giveBackAll cX11_giveBackAll 2 none) RX11 w none "giveBackAll") {v0 : Nat} {Q : State → Prop}  (kk : K p l e rX11_giveBackAll s m args below meth c 2 w 0 0 Q S 35 [(0, .ref v0), (1, .int 0)] []) : K p l e rX11_giveBackAll s m args below meth c 2 w 0 0 Q S 33 [(0, .ref v0)] [] := by
  refine k_iconst (v := 0) B (by decide) dX11_giveBackAll_33 ?_
  refine k_istore_n (lst' := [(1, .int 0), (0, .ref v0)]) B rfl (by decide) rfl dX11_giveBackAll_34 ?_
  refine k_sub [1, 0] rfl ?_
  exact kk
theorem bX11_giveBackAll_35 (B : Bd p s m args meth c cX11_giveBackAll 2 (wsOf yX11_giveBackAll cX11_giveBackAll 2 none) RX11 w none "giveBackAll") {v0 : Nat} {v1 : Int32} {x1 : Nat} {post : Int32 → St → Prop} {Q : State → Prop} (h1 : kd S v0 = 13) (h2 : gP S 770 v0 = some x1) (hc : ConI l yJx4a65c_size_8abf5 (wsOf yJx4a65c_size_8abf5 cJx4a65c_size_8abf5 1 (some .int)) rJx4a65c_size_8abf5 w S [.ref x1] post) (h3 : kd S x1 = 1) (kk : ∀ (r : Int32) (S' : St), post r S' → K p l e rX11_giveBackAll s m args below meth c 2 w 0 0 Q S' 43 [(0, .ref v0), (1, .int v1)] [.int r, .int v1]) : K p l e rX11_giveBackAll s m args below meth c 2 w 0 0 Q S 35 [(0, .ref v0), (1, .int v1)] [] := by
  refine k_iload_n B 1 rfl rfl dX11_giveBackAll_35 ?_
  refine k_aload_n B 0 rfl rfl dX11_giveBackAll_36 ?_
  refine k_getP (f := 770) (r := gP S 770 v0) B 12 2 rfl (by decide) rfl (by decide) rfl rfl (fun w h => in_of (uw_12 w h)) (in_of qfRX11_23) dX11_giveBackAll_37 h1 rfl ?_
  rw [h2]; change K _ _ _ _ _ _ _ _ _ _ _ _ _ _ _ _ _ _ (.ref x1 :: _)
  refine callV_I (st := [.int v1]) B [] (hc) (cwV 0 B.1.2.2.2.2 (gV qlRX11_101 qiJx4a65c_size_8abf5 qeJx4a65c_size_8abf5 qzRJx4a65c qcJx4a65c_size_8abf5) rfl rfl rfl (by decide +kernel) ⟨Nat.le_of_ble_eq_true rfl, Nat.le_of_ble_eq_true rfl⟩) rfl rfl (by decide) h3 (Nat.le_of_ble_eq_true rfl) rfl dX11_giveBackAll_40 ⟨Nat.le_of_ble_eq_true rfl, Nat.le_of_ble_eq_true rfl⟩ (fun r S' hp => ?_)
  exact kk r S' hp
theorem bX11_giveBackAll_43 (B : Bd p s m args meth c cX11_giveBackAll 2 (wsOf yX11_giveBackAll cX11_giveBackAll 2 none) RX11 w none "giveBackAll") {v0 : Nat} {v1 : Int32} {t0 : Int32} {t1 : Int32} {Q : State → Prop}  (kt : t1 ≤ t0 → K p l e rX11_giveBackAll s m args below meth c 2 w 0 0 Q S 66 [] []) (kf : ¬ t1 ≤ t0 → K p l e rX11_giveBackAll s m args below meth c 2 w 0 0 Q S 46 [(0, .ref v0), (1, .int v1)] []) : K p l e rX11_giveBackAll s m args below meth c 2 w 0 0 Q S 43 [(0, .ref v0), (1, .int v1)] [.int t1, .int t0] := by
  refine k_icmp_ge (tgt := 66) B dX11_giveBackAll_43 (by decide) (fun c => ?_) (fun c => ?_)
  · refine k_sub [] rfl ?_
    exact kt c
  · exact kf c
theorem bX11_giveBackAll_46 (B : Bd p s m args meth c cX11_giveBackAll 2 (wsOf yX11_giveBackAll cX11_giveBackAll 2 none) RX11 w none "giveBackAll") {v0 : Nat} {v1 : Int32} {x1 : Nat} {post : Nat → St → Prop} {Q : State → Prop} (h1 : kd S v0 = 13) (h2 : gP S 770 v0 = some x1) (hc : ConR l yJx4a65c_get_915e3 (wsOf yJx4a65c_get_915e3 cJx4a65c_get_915e3 2 (some (.object "java/lang/Object"))) rJx4a65c_get_915e3 w S [.ref x1, .int v1] post) (h3 : kd S x1 = 1) (kk : ∀ (r : Nat) (S' : St), post r S' → K p l e rX11_giveBackAll s m args below meth c 2 w 0 0 Q S' 54 [(0, .ref v0), (1, .int v1)] [.ref r]) : K p l e rX11_giveBackAll s m args below meth c 2 w 0 0 Q S 46 [(0, .ref v0), (1, .int v1)] [] := by
  refine k_aload_n B 0 rfl rfl dX11_giveBackAll_46 ?_
  refine k_getP (f := 770) (r := gP S 770 v0) B 12 2 rfl (by decide) rfl (by decide) rfl rfl (fun w h => in_of (uw_12 w h)) (in_of qfRX11_23) dX11_giveBackAll_47 h1 rfl ?_
  rw [h2]; change K _ _ _ _ _ _ _ _ _ _ _ _ _ _ _ _ _ _ (.ref x1 :: _)
  refine k_iload_n B 1 rfl rfl dX11_giveBackAll_50 ?_
  refine callV_R (st := []) B [.int v1] (hc) (cwV 1 B.1.2.2.2.2 (gV qlRX11_124 qiJx4a65c_get_915e3 qeJx4a65c_get_915e3 qzRJx4a65c qcJx4a65c_get_915e3) rfl rfl rfl (by decide +kernel) ⟨Nat.le_of_ble_eq_true rfl, Nat.le_of_ble_eq_true rfl⟩) rfl rfl (by decide) h3 (Nat.le_of_ble_eq_true rfl) rfl dX11_giveBackAll_51 ⟨Nat.le_of_ble_eq_true rfl, Nat.le_of_ble_eq_true rfl⟩ (fun r S' hp => ?_)
  exact kk r S' hp
theorem bX11_giveBackAll_54 (B : Bd p s m args meth c cX11_giveBackAll 2 (wsOf yX11_giveBackAll cX11_giveBackAll 2 none) RX11 w none "giveBackAll") {v0 : Nat} {v1 : Int32} {t0 : Nat} {post : St → Prop} {Q : State → Prop} (h1 : kd S t0 = 4) (hc : ConV l yX2_giveBack (wsOf yX2_giveBack cX2_giveBack 1 none) rX2_giveBack w S [.ref t0] post) (kk : ∀ (S' : St), post S' → K p l e rX11_giveBackAll s m args below meth c 2 w 0 0 Q S' 60 [(0, .ref v0), (1, .int v1)] []) : K p l e rX11_giveBackAll s m args below meth c 2 w 0 0 Q S 54 [(0, .ref v0), (1, .int v1)] [.ref t0] := by
  refine k_cast B 3 rfl (by decide) (in_of qkRX11_134) dX11_giveBackAll_54 h1 ?_
  refine callV_V (st := []) B [] (hc) (cwV 0 B.1.2.2.2.2 (gV qlRX11_429 qiX2_giveBack qeX2_giveBack qzRX2 qcX2_giveBack) rfl rfl rfl (by decide +kernel) ⟨Nat.le_of_ble_eq_true rfl, Nat.le_of_ble_eq_true rfl⟩) rfl rfl (by decide) h1 (Nat.le_of_ble_eq_true rfl) rfl dX11_giveBackAll_57 ⟨Nat.le_of_ble_eq_true rfl, Nat.le_of_ble_eq_true rfl⟩ (fun S' hp => ?_)
  exact kk S' hp
theorem bX11_giveBackAll_60 (B : Bd p s m args meth c cX11_giveBackAll 2 (wsOf yX11_giveBackAll cX11_giveBackAll 2 none) RX11 w none "giveBackAll") {v0 : Nat} {v1 : Int32} {Q : State → Prop}  (kk : K p l e rX11_giveBackAll s m args below meth c 2 w 0 0 Q S 35 [(0, .ref v0), (1, .int (v1 + 1))] []) : K p l e rX11_giveBackAll s m args below meth c 2 w 0 0 Q S 60 [(0, .ref v0), (1, .int v1)] [] := by
  refine k_iinc (v := v1 + 1) (lst' := [(1, .int (v1 + 1)), (0, .ref v0)]) B 1 rfl rfl (by decide) rfl dX11_giveBackAll_60 ?_
  refine k_goto (tgt := 35) B dX11_giveBackAll_63 (by decide) ?_
  refine k_sub [1, 0] rfl ?_
  exact kk
theorem bX11_giveBackAll_66 (B : Bd p s m args meth c cX11_giveBackAll 2 (wsOf yX11_giveBackAll cX11_giveBackAll 2 none) RX11 w none "giveBackAll") {post : St → Prop}  (hq : post S) : K p l e rX11_giveBackAll s m args below meth c 2 w 0 0 (MQ below (va_Qv post (fun S' t => Hd w S' t.heap) (wA w)) args s 0 0 (wA w)) S 66 [] [] := by
  exact ret_V B rfl dX11_giveBackAll_66 (hq)
theorem bX11_mixed_0 (B : Bd p s m args meth c cX11_mixed 4 (wsOf yX11_mixed cX11_mixed 4 (some .long)) RX11 w (some .long) "mixed") {v0 : Int64} {v2 : Int64} {post : Int64 → St → Prop}  (hq : post ((v0 * 31) + v2) S) : K p l e rX11_mixed s m args below meth c 4 w 0 0 (MQ below (va_Ql post (fun S' t => Hd w S' t.heap) (wA w)) args s 0 0 (wA w)) S 0 [(0, .long v0), (2, .long v2)] [] := by
  refine k_lload_n B 0 rfl rfl dX11_mixed_0 ?_
  refine k_ldc2 (v := 31) B (in_of qtRX11_430) dX11_mixed_1 ?_
  refine k_lmul B dX11_mixed_4 ?_
  refine k_lload_n B 1 rfl rfl dX11_mixed_5 ?_
  refine k_ladd B dX11_mixed_6 ?_
  exact ret_L B rfl dX11_mixed_7 (hq)
theorem bX11_withHomes_0 (B : Bd p s m args meth c cX11_withHomes 8 (wsOf yX11_withHomes cX11_withHomes 8 (some .long)) RX11 w (some .long) "withHomes") {v0 : Nat} {v1 : Int64} {Q : State → Prop}  (kk : K p l e rX11_withHomes s m args below meth c 8 w 0 0 Q S 5 [(0, .ref v0), (3, .long v1), (5, .int 0)] []) : K p l e rX11_withHomes s m args below meth c 8 w 0 0 Q S 0 [(0, .ref v0), (1, .long v1)] [] := by
  refine k_lload_n B 1 rfl rfl dX11_withHomes_0 ?_
  refine k_lstore_n (lst' := [(3, .long v1), (0, .ref v0), (1, .long v1)]) B rfl (by decide) rfl dX11_withHomes_1 ?_
  refine k_iconst (v := 0) B (by decide) dX11_withHomes_2 ?_
  refine k_istore (lst' := [(5, .int 0), (3, .long v1), (0, .ref v0), (1, .long v1)]) B (by decide) rfl dX11_withHomes_3 ?_
  refine k_sub [2, 1, 0] rfl ?_
  exact kk
theorem bX11_withHomes_5 (B : Bd p s m args meth c cX11_withHomes 8 (wsOf yX11_withHomes cX11_withHomes 8 (some .long)) RX11 w (some .long) "withHomes") {v0 : Nat} {v3 : Int64} {v5 : Int32} {x1 : Nat} {post : Int32 → St → Prop} {Q : State → Prop} (h1 : kd S v0 = 13) (h2 : gP S 769 v0 = some x1) (hc : ConI l yJx4a65c_size_8abf5 (wsOf yJx4a65c_size_8abf5 cJx4a65c_size_8abf5 1 (some .int)) rJx4a65c_size_8abf5 w S [.ref x1] post) (h3 : kd S x1 = 1) (kk : ∀ (r : Int32) (S' : St), post r S' → K p l e rX11_withHomes s m args below meth c 8 w 0 0 Q S' 14 [(0, .ref v0), (3, .long v3), (5, .int v5)] [.int r, .int v5]) : K p l e rX11_withHomes s m args below meth c 8 w 0 0 Q S 5 [(0, .ref v0), (3, .long v3), (5, .int v5)] [] := by
  refine k_iload B 2 rfl dX11_withHomes_5 ?_
  refine k_aload_n B 0 rfl rfl dX11_withHomes_7 ?_
  refine k_getP (f := 769) (r := gP S 769 v0) B 12 1 rfl (by decide) rfl (by decide) rfl rfl (fun w h => in_of (uw_12 w h)) (in_of qfRX11_19) dX11_withHomes_8 h1 rfl ?_
  rw [h2]; change K _ _ _ _ _ _ _ _ _ _ _ _ _ _ _ _ _ _ (.ref x1 :: _)
  refine callV_I (st := [.int v5]) B [] (hc) (cwV 0 B.1.2.2.2.2 (gV qlRX11_101 qiJx4a65c_size_8abf5 qeJx4a65c_size_8abf5 qzRJx4a65c qcJx4a65c_size_8abf5) rfl rfl rfl (by decide +kernel) ⟨Nat.le_of_ble_eq_true rfl, Nat.le_of_ble_eq_true rfl⟩) rfl rfl (by decide) h3 (Nat.le_of_ble_eq_true rfl) rfl dX11_withHomes_11 ⟨Nat.le_of_ble_eq_true rfl, Nat.le_of_ble_eq_true rfl⟩ (fun r S' hp => ?_)
  exact kk r S' hp
theorem bX11_withHomes_14 (B : Bd p s m args meth c cX11_withHomes 8 (wsOf yX11_withHomes cX11_withHomes 8 (some .long)) RX11 w (some .long) "withHomes") {v0 : Nat} {v3 : Int64} {v5 : Int32} {t0 : Int32} {t1 : Int32} {Q : State → Prop}  (kt : t1 ≤ t0 → K p l e rX11_withHomes s m args below meth c 8 w 0 0 Q S 100 [(3, .long v3)] []) (kf : ¬ t1 ≤ t0 → K p l e rX11_withHomes s m args below meth c 8 w 0 0 Q S 17 [(0, .ref v0), (3, .long v3), (5, .int v5)] []) : K p l e rX11_withHomes s m args below meth c 8 w 0 0 Q S 14 [(0, .ref v0), (3, .long v3), (5, .int v5)] [.int t1, .int t0] := by
  refine k_icmp_ge (tgt := 100) B dX11_withHomes_14 (by decide) (fun c => ?_) (fun c => ?_)
  · refine k_sub [1] rfl ?_
    exact kt c
  · exact kf c
theorem bX11_withHomes_17 (B : Bd p s m args meth c cX11_withHomes 8 (wsOf yX11_withHomes cX11_withHomes 8 (some .long)) RX11 w (some .long) "withHomes") {v0 : Nat} {v3 : Int64} {v5 : Int32} {Q : State → Prop}  (kk : K p l e rX11_withHomes s m args below meth c 8 w 0 0 Q S 20 [(0, .ref v0), (3, .long v3), (5, .int v5), (6, .int 0)] []) : K p l e rX11_withHomes s m args below meth c 8 w 0 0 Q S 17 [(0, .ref v0), (3, .long v3), (5, .int v5)] [] := by
  refine k_iconst (v := 0) B (by decide) dX11_withHomes_17 ?_
  refine k_istore (lst' := [(6, .int 0), (0, .ref v0), (3, .long v3), (5, .int v5)]) B (by decide) rfl dX11_withHomes_18 ?_
  refine k_sub [1, 2, 3, 0] rfl ?_
  exact kk
theorem bX11_withHomes_20 (B : Bd p s m args meth c cX11_withHomes 8 (wsOf yX11_withHomes cX11_withHomes 8 (some .long)) RX11 w (some .long) "withHomes") {v0 : Nat} {v3 : Int64} {v5 : Int32} {v6 : Int32} {Q : State → Prop}  (kt : 6 ≤ v6 → K p l e rX11_withHomes s m args below meth c 8 w 0 0 Q S 47 [(0, .ref v0), (3, .long v3), (5, .int v5)] []) (kf : ¬ 6 ≤ v6 → K p l e rX11_withHomes s m args below meth c 8 w 0 0 Q S 27 [(0, .ref v0), (3, .long v3), (5, .int v5), (6, .int v6)] []) : K p l e rX11_withHomes s m args below meth c 8 w 0 0 Q S 20 [(0, .ref v0), (3, .long v3), (5, .int v5), (6, .int v6)] [] := by
  refine k_iload B 3 rfl dX11_withHomes_20 ?_
  refine k_bipush (v := 6) B (by decide) dX11_withHomes_22 ?_
  refine k_icmp_ge (tgt := 47) B dX11_withHomes_24 (by decide) (fun c => ?_) (fun c => ?_)
  · refine k_sub [0, 1, 2] rfl ?_
    exact kt c
  · exact kf c
theorem bX11_withHomes_27 (B : Bd p s m args meth c cX11_withHomes 8 (wsOf yX11_withHomes cX11_withHomes 8 (some .long)) RX11 w (some .long) "withHomes") {v0 : Nat} {v3 : Int64} {v5 : Int32} {v6 : Int32} {post : Int32 → St → Prop} {Q : State → Prop} (hc : ConI l yX11_factOfHome (wsOf yX11_factOfHome cX11_factOfHome 4 (some .int)) rX11_factOfHome w S [.ref v0, .int v5, .int v6] post) (h1 : kd S v0 = 13) (kk : ∀ (r : Int32) (S' : St), post r S' → K p l e rX11_withHomes s m args below meth c 8 w 0 0 Q S' 36 [(0, .ref v0), (5, .int v5), (6, .int v6)] [.int r, .long v3]) : K p l e rX11_withHomes s m args below meth c 8 w 0 0 Q S 27 [(0, .ref v0), (3, .long v3), (5, .int v5), (6, .int v6)] [] := by
  refine k_lload_n B 1 rfl rfl dX11_withHomes_27 ?_
  refine k_aload_n B 0 rfl rfl dX11_withHomes_28 ?_
  refine k_iload B 2 rfl dX11_withHomes_29 ?_
  refine k_iload B 3 rfl dX11_withHomes_31 ?_
  refine callV_I (st := [.long v3]) B [.int v5, .int v6] (hc) (cwV 2 B.1.2.2.2.2 (gV qlRX11_149 qiX11_factOfHome qeX11_factOfHome qzRX11 qcX11_factOfHome) rfl rfl rfl (by decide +kernel) ⟨Nat.le_of_ble_eq_true rfl, Nat.le_of_ble_eq_true rfl⟩) rfl rfl (by decide) h1 (Nat.le_of_ble_eq_true rfl) rfl dX11_withHomes_33 ⟨Nat.le_of_ble_eq_true rfl, Nat.le_of_ble_eq_true rfl⟩ (fun r S' hp => ?_)
  refine k_sub [0, 2, 3] rfl ?_
  exact kk r S' hp
theorem bX11_withHomes_36 (B : Bd p s m args meth c cX11_withHomes 8 (wsOf yX11_withHomes cX11_withHomes 8 (some .long)) RX11 w (some .long) "withHomes") {v0 : Nat} {v5 : Int32} {v6 : Int32} {t0 : Int64} {t1 : Int32} {post : Int64 → St → Prop} {Q : State → Prop} (hc : ConL l yX11_mixed (wsOf yX11_mixed cX11_mixed 4 (some .long)) rX11_mixed w S [.long t0, .long (t1.toInt64)] post) (kk : ∀ (r : Int64) (S' : St), post r S' → K p l e rX11_withHomes s m args below meth c 8 w 0 0 Q S' 40 [(0, .ref v0), (5, .int v5), (6, .int v6)] [.long r]) : K p l e rX11_withHomes s m args below meth c 8 w 0 0 Q S 36 [(0, .ref v0), (5, .int v5), (6, .int v6)] [.int t1, .long t0] := by
  refine k_i2l B dX11_withHomes_36 ?_
  refine callS_L (st := []) B [.long t0, .long (t1.toInt64)] (hc) (va_cwS 2 B.1.2.2.2.2 (gS qlRX11_301 qsX11_mixed qzRX11 qcX11_mixed) rfl rfl rfl (by decide +kernel) ⟨Nat.le_of_ble_eq_true rfl, Nat.le_of_ble_eq_true rfl⟩) rfl (Nat.le_of_ble_eq_true rfl) rfl dX11_withHomes_37 ⟨Nat.le_of_ble_eq_true rfl, Nat.le_of_ble_eq_true rfl⟩ (fun r S' hp => ?_)
  exact kk r S' hp
theorem bX11_withHomes_40 (B : Bd p s m args meth c cX11_withHomes 8 (wsOf yX11_withHomes cX11_withHomes 8 (some .long)) RX11 w (some .long) "withHomes") {v0 : Nat} {v5 : Int32} {v6 : Int32} {t0 : Int64} {Q : State → Prop}  (kk : K p l e rX11_withHomes s m args below meth c 8 w 0 0 Q S 20 [(0, .ref v0), (3, .long t0), (5, .int v5), (6, .int (v6 + 1))] []) : K p l e rX11_withHomes s m args below meth c 8 w 0 0 Q S 40 [(0, .ref v0), (5, .int v5), (6, .int v6)] [.long t0] := by
  refine k_lstore_n (lst' := [(3, .long t0), (0, .ref v0), (5, .int v5), (6, .int v6)]) B rfl (by decide) rfl dX11_withHomes_40 ?_
  refine k_iinc (v := v6 + 1) (lst' := [(6, .int (v6 + 1)), (3, .long t0), (0, .ref v0), (5, .int v5)]) B 3 rfl rfl (by decide) rfl dX11_withHomes_41 ?_
  refine k_goto (tgt := 20) B dX11_withHomes_44 (by decide) ?_
  refine k_sub [2, 1, 3, 0] rfl ?_
  exact kk
theorem bX11_withHomes_47 (B : Bd p s m args meth c cX11_withHomes 8 (wsOf yX11_withHomes cX11_withHomes 8 (some .long)) RX11 w (some .long) "withHomes") {v0 : Nat} {v3 : Int64} {v5 : Int32} {x1 : Nat} {post : Nat → St → Prop} {Q : State → Prop} (h1 : kd S v0 = 13) (h2 : gP S 769 v0 = some x1) (hc : ConR l yJx4a65c_get_915e3 (wsOf yJx4a65c_get_915e3 cJx4a65c_get_915e3 2 (some (.object "java/lang/Object"))) rJx4a65c_get_915e3 w S [.ref x1, .int v5] post) (h3 : kd S x1 = 1) (kk : ∀ (r : Nat) (S' : St), post r S' → K p l e rX11_withHomes s m args below meth c 8 w 0 0 Q S' 56 [(0, .ref v0), (3, .long v3), (5, .int v5)] [.ref r]) : K p l e rX11_withHomes s m args below meth c 8 w 0 0 Q S 47 [(0, .ref v0), (3, .long v3), (5, .int v5)] [] := by
  refine k_aload_n B 0 rfl rfl dX11_withHomes_47 ?_
  refine k_getP (f := 769) (r := gP S 769 v0) B 12 1 rfl (by decide) rfl (by decide) rfl rfl (fun w h => in_of (uw_12 w h)) (in_of qfRX11_19) dX11_withHomes_48 h1 rfl ?_
  rw [h2]; change K _ _ _ _ _ _ _ _ _ _ _ _ _ _ _ _ _ _ (.ref x1 :: _)
  refine k_iload B 2 rfl dX11_withHomes_51 ?_
  refine callV_R (st := []) B [.int v5] (hc) (cwV 1 B.1.2.2.2.2 (gV qlRX11_124 qiJx4a65c_get_915e3 qeJx4a65c_get_915e3 qzRJx4a65c qcJx4a65c_get_915e3) rfl rfl rfl (by decide +kernel) ⟨Nat.le_of_ble_eq_true rfl, Nat.le_of_ble_eq_true rfl⟩) rfl rfl (by decide) h3 (Nat.le_of_ble_eq_true rfl) rfl dX11_withHomes_53 ⟨Nat.le_of_ble_eq_true rfl, Nat.le_of_ble_eq_true rfl⟩ (fun r S' hp => ?_)
  exact kk r S' hp
theorem bX11_withHomes_56 (B : Bd p s m args meth c cX11_withHomes 8 (wsOf yX11_withHomes cX11_withHomes 8 (some .long)) RX11 w (some .long) "withHomes") {v0 : Nat} {v3 : Int64} {v5 : Int32} {t0 : Nat} {Q : State → Prop} (h1 : kd S t0 = 3) (kk : K p l e rX11_withHomes s m args below meth c 8 w 0 0 Q S 64 [(0, .ref v0), (3, .long v3), (5, .int v5), (6, .ref t0), (7, .int 0)] []) : K p l e rX11_withHomes s m args below meth c 8 w 0 0 Q S 56 [(0, .ref v0), (3, .long v3), (5, .int v5)] [.ref t0] := by
  refine k_cast B 2 rfl (by decide) (in_of qkRX11_108) dX11_withHomes_56 h1 ?_
  refine k_astore (lst' := [(6, .ref t0), (0, .ref v0), (3, .long v3), (5, .int v5)]) B (by decide) rfl dX11_withHomes_59 ?_
  refine k_iconst (v := 0) B (by decide) dX11_withHomes_61 ?_
  refine k_istore (lst' := [(7, .int 0), (6, .ref t0), (0, .ref v0), (3, .long v3), (5, .int v5)]) B (by decide) rfl dX11_withHomes_62 ?_
  refine k_sub [2, 3, 4, 1, 0] rfl ?_
  exact kk
theorem bX11_withHomes_64 (B : Bd p s m args meth c cX11_withHomes 8 (wsOf yX11_withHomes cX11_withHomes 8 (some .long)) RX11 w (some .long) "withHomes") {v0 : Nat} {v3 : Int64} {v5 : Int32} {v6 : Nat} {v7 : Int32} {Q : State → Prop} (h1 : kd S v6 = 3) (kt : (gI S 131 v6) ≤ v7 → K p l e rX11_withHomes s m args below meth c 8 w 0 0 Q S 94 [(0, .ref v0), (3, .long v3), (5, .int v5)] []) (kf : ¬ (gI S 131 v6) ≤ v7 → K p l e rX11_withHomes s m args below meth c 8 w 0 0 Q S 74 [(0, .ref v0), (3, .long v3), (5, .int v5), (6, .ref v6), (7, .int v7)] []) : K p l e rX11_withHomes s m args below meth c 8 w 0 0 Q S 64 [(0, .ref v0), (3, .long v3), (5, .int v5), (6, .ref v6), (7, .int v7)] [] := by
  refine k_iload B 4 rfl dX11_withHomes_64 ?_
  refine k_aload B 3 rfl dX11_withHomes_66 ?_
  refine k_getI (f := 131) (v := gI S 131 v6) B 2 3 rfl (by decide) rfl (by decide) rfl rfl (fun w h => in_of (uw_2 w h)) (in_of qfRX11_128) dX11_withHomes_68 h1 rfl ?_
  refine k_icmp_ge (tgt := 94) B dX11_withHomes_71 (by decide) (fun c => ?_) (fun c => ?_)
  · refine k_sub [0, 1, 2] rfl ?_
    exact kt c
  · exact kf c
theorem bX11_withHomes_74 (B : Bd p s m args meth c cX11_withHomes 8 (wsOf yX11_withHomes cX11_withHomes 8 (some .long)) RX11 w (some .long) "withHomes") {v0 : Nat} {v3 : Int64} {v5 : Int32} {v6 : Nat} {v7 : Int32} {x1 : Nat} {post : Int64 → St → Prop} {Q : State → Prop} (h1 : kd S v6 = 3) (h2 : gP S 130 v6 = some x1) (h3 : kd S x1 = 21) (h4 : vp_in v7 (ln S x1)) (hc : ConL l yX11_mixed (wsOf yX11_mixed cX11_mixed 4 (some .long)) rX11_mixed w S [.long v3, .long (((rI S x1) v7.toNatClampNeg).toInt64)] post) (kk : ∀ (r : Int64) (S' : St), post r S' → K p l e rX11_withHomes s m args below meth c 8 w 0 0 Q S' 87 [(0, .ref v0), (5, .int v5), (6, .ref v6), (7, .int v7)] [.long r]) : K p l e rX11_withHomes s m args below meth c 8 w 0 0 Q S 74 [(0, .ref v0), (3, .long v3), (5, .int v5), (6, .ref v6), (7, .int v7)] [] := by
  refine k_lload_n B 1 rfl rfl dX11_withHomes_74 ?_
  refine k_aload B 3 rfl dX11_withHomes_75 ?_
  refine k_getP (f := 130) (r := gP S 130 v6) B 2 2 rfl (by decide) rfl (by decide) rfl rfl (fun w h => in_of (uw_2 w h)) (in_of qfRX11_131) dX11_withHomes_77 h1 rfl ?_
  rw [h2]; change K _ _ _ _ _ _ _ _ _ _ _ _ _ _ _ _ _ _ (.ref x1 :: _)
  refine k_iload B 4 rfl dX11_withHomes_80 ?_
  refine k_iald (v := (rI S x1) v7.toNatClampNeg) B dX11_withHomes_82 h3 h4 rfl ?_
  refine k_i2l B dX11_withHomes_83 ?_
  refine callS_L (st := []) B [.long v3, .long (((rI S x1) v7.toNatClampNeg).toInt64)] (hc) (va_cwS 2 B.1.2.2.2.2 (gS qlRX11_301 qsX11_mixed qzRX11 qcX11_mixed) rfl rfl rfl (by decide +kernel) ⟨Nat.le_of_ble_eq_true rfl, Nat.le_of_ble_eq_true rfl⟩) rfl (Nat.le_of_ble_eq_true rfl) rfl dX11_withHomes_84 ⟨Nat.le_of_ble_eq_true rfl, Nat.le_of_ble_eq_true rfl⟩ (fun r S' hp => ?_)
  refine k_sub [0, 2, 3, 4] rfl ?_
  exact kk r S' hp
theorem bX11_withHomes_87 (B : Bd p s m args meth c cX11_withHomes 8 (wsOf yX11_withHomes cX11_withHomes 8 (some .long)) RX11 w (some .long) "withHomes") {v0 : Nat} {v5 : Int32} {v6 : Nat} {v7 : Int32} {t0 : Int64} {Q : State → Prop}  (kk : K p l e rX11_withHomes s m args below meth c 8 w 0 0 Q S 64 [(0, .ref v0), (3, .long t0), (5, .int v5), (6, .ref v6), (7, .int (v7 + 1))] []) : K p l e rX11_withHomes s m args below meth c 8 w 0 0 Q S 87 [(0, .ref v0), (5, .int v5), (6, .ref v6), (7, .int v7)] [.long t0] := by
  refine k_lstore_n (lst' := [(3, .long t0), (0, .ref v0), (5, .int v5), (6, .ref v6), (7, .int v7)]) B rfl (by decide) rfl dX11_withHomes_87 ?_
  refine k_iinc (v := v7 + 1) (lst' := [(7, .int (v7 + 1)), (3, .long t0), (0, .ref v0), (5, .int v5), (6, .ref v6)]) B 4 rfl rfl (by decide) rfl dX11_withHomes_88 ?_
  refine k_goto (tgt := 64) B dX11_withHomes_91 (by decide) ?_
  refine k_sub [2, 1, 3, 4, 0] rfl ?_
  exact kk
theorem bX11_withHomes_94 (B : Bd p s m args meth c cX11_withHomes 8 (wsOf yX11_withHomes cX11_withHomes 8 (some .long)) RX11 w (some .long) "withHomes") {v0 : Nat} {v3 : Int64} {v5 : Int32} {Q : State → Prop}  (kk : K p l e rX11_withHomes s m args below meth c 8 w 0 0 Q S 5 [(0, .ref v0), (3, .long v3), (5, .int (v5 + 1))] []) : K p l e rX11_withHomes s m args below meth c 8 w 0 0 Q S 94 [(0, .ref v0), (3, .long v3), (5, .int v5)] [] := by
  refine k_iinc (v := v5 + 1) (lst' := [(5, .int (v5 + 1)), (0, .ref v0), (3, .long v3)]) B 2 rfl rfl (by decide) rfl dX11_withHomes_94 ?_
  refine k_goto (tgt := 5) B dX11_withHomes_97 (by decide) ?_
  refine k_sub [1, 2, 0] rfl ?_
  exact kk
theorem bX11_withHomes_100 (B : Bd p s m args meth c cX11_withHomes 8 (wsOf yX11_withHomes cX11_withHomes 8 (some .long)) RX11 w (some .long) "withHomes") {v3 : Int64} {post : Int64 → St → Prop}  (hq : post v3 S) : K p l e rX11_withHomes s m args below meth c 8 w 0 0 (MQ below (va_Ql post (fun S' t => Hd w S' t.heap) (wA w)) args s 0 0 (wA w)) S 100 [(3, .long v3)] [] := by
  refine k_lload_n B 0 rfl rfl dX11_withHomes_100 ?_
  exact ret_L B rfl dX11_withHomes_101 (hq)
theorem bX11_withLockers_0 (B : Bd p s m args meth c cX11_withLockers 7 (wsOf yX11_withLockers cX11_withLockers 7 (some .long)) RX11 w (some .long) "withLockers") {v0 : Nat} {v1 : Int64} {Q : State → Prop}  (kk : K p l e rX11_withLockers s m args below meth c 7 w 0 0 Q S 5 [(0, .ref v0), (3, .long v1), (5, .int 0)] []) : K p l e rX11_withLockers s m args below meth c 7 w 0 0 Q S 0 [(0, .ref v0), (1, .long v1)] [] := by
  refine k_lload_n B 1 rfl rfl dX11_withLockers_0 ?_
  refine k_lstore_n (lst' := [(3, .long v1), (0, .ref v0), (1, .long v1)]) B rfl (by decide) rfl dX11_withLockers_1 ?_
  refine k_iconst (v := 0) B (by decide) dX11_withLockers_2 ?_
  refine k_istore (lst' := [(5, .int 0), (3, .long v1), (0, .ref v0), (1, .long v1)]) B (by decide) rfl dX11_withLockers_3 ?_
  refine k_sub [2, 1, 0] rfl ?_
  exact kk
theorem bX11_withLockers_5 (B : Bd p s m args meth c cX11_withLockers 7 (wsOf yX11_withLockers cX11_withLockers 7 (some .long)) RX11 w (some .long) "withLockers") {v0 : Nat} {v3 : Int64} {v5 : Int32} {x1 : Nat} {post : Int32 → St → Prop} {Q : State → Prop} (h1 : kd S v0 = 13) (h2 : gP S 770 v0 = some x1) (hc : ConI l yJx4a65c_size_8abf5 (wsOf yJx4a65c_size_8abf5 cJx4a65c_size_8abf5 1 (some .int)) rJx4a65c_size_8abf5 w S [.ref x1] post) (h3 : kd S x1 = 1) (kk : ∀ (r : Int32) (S' : St), post r S' → K p l e rX11_withLockers s m args below meth c 7 w 0 0 Q S' 14 [(0, .ref v0), (3, .long v3), (5, .int v5)] [.int r, .int v5]) : K p l e rX11_withLockers s m args below meth c 7 w 0 0 Q S 5 [(0, .ref v0), (3, .long v3), (5, .int v5)] [] := by
  refine k_iload B 2 rfl dX11_withLockers_5 ?_
  refine k_aload_n B 0 rfl rfl dX11_withLockers_7 ?_
  refine k_getP (f := 770) (r := gP S 770 v0) B 12 2 rfl (by decide) rfl (by decide) rfl rfl (fun w h => in_of (uw_12 w h)) (in_of qfRX11_23) dX11_withLockers_8 h1 rfl ?_
  rw [h2]; change K _ _ _ _ _ _ _ _ _ _ _ _ _ _ _ _ _ _ (.ref x1 :: _)
  refine callV_I (st := [.int v5]) B [] (hc) (cwV 0 B.1.2.2.2.2 (gV qlRX11_101 qiJx4a65c_size_8abf5 qeJx4a65c_size_8abf5 qzRJx4a65c qcJx4a65c_size_8abf5) rfl rfl rfl (by decide +kernel) ⟨Nat.le_of_ble_eq_true rfl, Nat.le_of_ble_eq_true rfl⟩) rfl rfl (by decide) h3 (Nat.le_of_ble_eq_true rfl) rfl dX11_withLockers_11 ⟨Nat.le_of_ble_eq_true rfl, Nat.le_of_ble_eq_true rfl⟩ (fun r S' hp => ?_)
  exact kk r S' hp
theorem bX11_withLockers_14 (B : Bd p s m args meth c cX11_withLockers 7 (wsOf yX11_withLockers cX11_withLockers 7 (some .long)) RX11 w (some .long) "withLockers") {v0 : Nat} {v3 : Int64} {v5 : Int32} {t0 : Int32} {t1 : Int32} {Q : State → Prop}  (kt : t1 ≤ t0 → K p l e rX11_withLockers s m args below meth c 7 w 0 0 Q S 53 [(3, .long v3)] []) (kf : ¬ t1 ≤ t0 → K p l e rX11_withLockers s m args below meth c 7 w 0 0 Q S 17 [(0, .ref v0), (3, .long v3), (5, .int v5)] []) : K p l e rX11_withLockers s m args below meth c 7 w 0 0 Q S 14 [(0, .ref v0), (3, .long v3), (5, .int v5)] [.int t1, .int t0] := by
  refine k_icmp_ge (tgt := 53) B dX11_withLockers_14 (by decide) (fun c => ?_) (fun c => ?_)
  · refine k_sub [1] rfl ?_
    exact kt c
  · exact kf c
theorem bX11_withLockers_17 (B : Bd p s m args meth c cX11_withLockers 7 (wsOf yX11_withLockers cX11_withLockers 7 (some .long)) RX11 w (some .long) "withLockers") {v0 : Nat} {v3 : Int64} {v5 : Int32} {Q : State → Prop}  (kk : K p l e rX11_withLockers s m args below meth c 7 w 0 0 Q S 20 [(0, .ref v0), (3, .long v3), (5, .int v5), (6, .int 0)] []) : K p l e rX11_withLockers s m args below meth c 7 w 0 0 Q S 17 [(0, .ref v0), (3, .long v3), (5, .int v5)] [] := by
  refine k_iconst (v := 0) B (by decide) dX11_withLockers_17 ?_
  refine k_istore (lst' := [(6, .int 0), (0, .ref v0), (3, .long v3), (5, .int v5)]) B (by decide) rfl dX11_withLockers_18 ?_
  refine k_sub [1, 2, 3, 0] rfl ?_
  exact kk
theorem bX11_withLockers_20 (B : Bd p s m args meth c cX11_withLockers 7 (wsOf yX11_withLockers cX11_withLockers 7 (some .long)) RX11 w (some .long) "withLockers") {v0 : Nat} {v3 : Int64} {v5 : Int32} {v6 : Int32} {Q : State → Prop}  (kt : 6 ≤ v6 → K p l e rX11_withLockers s m args below meth c 7 w 0 0 Q S 47 [(0, .ref v0), (3, .long v3), (5, .int v5)] []) (kf : ¬ 6 ≤ v6 → K p l e rX11_withLockers s m args below meth c 7 w 0 0 Q S 27 [(0, .ref v0), (3, .long v3), (5, .int v5), (6, .int v6)] []) : K p l e rX11_withLockers s m args below meth c 7 w 0 0 Q S 20 [(0, .ref v0), (3, .long v3), (5, .int v5), (6, .int v6)] [] := by
  refine k_iload B 3 rfl dX11_withLockers_20 ?_
  refine k_bipush (v := 6) B (by decide) dX11_withLockers_22 ?_
  refine k_icmp_ge (tgt := 47) B dX11_withLockers_24 (by decide) (fun c => ?_) (fun c => ?_)
  · refine k_sub [0, 1, 2] rfl ?_
    exact kt c
  · exact kf c
theorem bX11_withLockers_27 (B : Bd p s m args meth c cX11_withLockers 7 (wsOf yX11_withLockers cX11_withLockers 7 (some .long)) RX11 w (some .long) "withLockers") {v0 : Nat} {v3 : Int64} {v5 : Int32} {v6 : Int32} {post : Int32 → St → Prop} {Q : State → Prop} (hc : ConI l yX11_factOfLocker (wsOf yX11_factOfLocker cX11_factOfLocker 4 (some .int)) rX11_factOfLocker w S [.ref v0, .int v5, .int v6] post) (h1 : kd S v0 = 13) (kk : ∀ (r : Int32) (S' : St), post r S' → K p l e rX11_withLockers s m args below meth c 7 w 0 0 Q S' 36 [(0, .ref v0), (5, .int v5), (6, .int v6)] [.int r, .long v3]) : K p l e rX11_withLockers s m args below meth c 7 w 0 0 Q S 27 [(0, .ref v0), (3, .long v3), (5, .int v5), (6, .int v6)] [] := by
  refine k_lload_n B 1 rfl rfl dX11_withLockers_27 ?_
  refine k_aload_n B 0 rfl rfl dX11_withLockers_28 ?_
  refine k_iload B 2 rfl dX11_withLockers_29 ?_
  refine k_iload B 3 rfl dX11_withLockers_31 ?_
  refine callV_I (st := [.long v3]) B [.int v5, .int v6] (hc) (cwV 2 B.1.2.2.2.2 (gV qlRX11_153 qiX11_factOfLocker qeX11_factOfLocker qzRX11 qcX11_factOfLocker) rfl rfl rfl (by decide +kernel) ⟨Nat.le_of_ble_eq_true rfl, Nat.le_of_ble_eq_true rfl⟩) rfl rfl (by decide) h1 (Nat.le_of_ble_eq_true rfl) rfl dX11_withLockers_33 ⟨Nat.le_of_ble_eq_true rfl, Nat.le_of_ble_eq_true rfl⟩ (fun r S' hp => ?_)
  refine k_sub [0, 2, 3] rfl ?_
  exact kk r S' hp
theorem bX11_withLockers_36 (B : Bd p s m args meth c cX11_withLockers 7 (wsOf yX11_withLockers cX11_withLockers 7 (some .long)) RX11 w (some .long) "withLockers") {v0 : Nat} {v5 : Int32} {v6 : Int32} {t0 : Int64} {t1 : Int32} {post : Int64 → St → Prop} {Q : State → Prop} (hc : ConL l yX11_mixed (wsOf yX11_mixed cX11_mixed 4 (some .long)) rX11_mixed w S [.long t0, .long (t1.toInt64)] post) (kk : ∀ (r : Int64) (S' : St), post r S' → K p l e rX11_withLockers s m args below meth c 7 w 0 0 Q S' 40 [(0, .ref v0), (5, .int v5), (6, .int v6)] [.long r]) : K p l e rX11_withLockers s m args below meth c 7 w 0 0 Q S 36 [(0, .ref v0), (5, .int v5), (6, .int v6)] [.int t1, .long t0] := by
  refine k_i2l B dX11_withLockers_36 ?_
  refine callS_L (st := []) B [.long t0, .long (t1.toInt64)] (hc) (va_cwS 2 B.1.2.2.2.2 (gS qlRX11_301 qsX11_mixed qzRX11 qcX11_mixed) rfl rfl rfl (by decide +kernel) ⟨Nat.le_of_ble_eq_true rfl, Nat.le_of_ble_eq_true rfl⟩) rfl (Nat.le_of_ble_eq_true rfl) rfl dX11_withLockers_37 ⟨Nat.le_of_ble_eq_true rfl, Nat.le_of_ble_eq_true rfl⟩ (fun r S' hp => ?_)
  exact kk r S' hp
theorem bX11_withLockers_40 (B : Bd p s m args meth c cX11_withLockers 7 (wsOf yX11_withLockers cX11_withLockers 7 (some .long)) RX11 w (some .long) "withLockers") {v0 : Nat} {v5 : Int32} {v6 : Int32} {t0 : Int64} {Q : State → Prop}  (kk : K p l e rX11_withLockers s m args below meth c 7 w 0 0 Q S 20 [(0, .ref v0), (3, .long t0), (5, .int v5), (6, .int (v6 + 1))] []) : K p l e rX11_withLockers s m args below meth c 7 w 0 0 Q S 40 [(0, .ref v0), (5, .int v5), (6, .int v6)] [.long t0] := by
  refine k_lstore_n (lst' := [(3, .long t0), (0, .ref v0), (5, .int v5), (6, .int v6)]) B rfl (by decide) rfl dX11_withLockers_40 ?_
  refine k_iinc (v := v6 + 1) (lst' := [(6, .int (v6 + 1)), (3, .long t0), (0, .ref v0), (5, .int v5)]) B 3 rfl rfl (by decide) rfl dX11_withLockers_41 ?_
  refine k_goto (tgt := 20) B dX11_withLockers_44 (by decide) ?_
  refine k_sub [2, 1, 3, 0] rfl ?_
  exact kk
theorem bX11_withLockers_47 (B : Bd p s m args meth c cX11_withLockers 7 (wsOf yX11_withLockers cX11_withLockers 7 (some .long)) RX11 w (some .long) "withLockers") {v0 : Nat} {v3 : Int64} {v5 : Int32} {Q : State → Prop}  (kk : K p l e rX11_withLockers s m args below meth c 7 w 0 0 Q S 5 [(0, .ref v0), (3, .long v3), (5, .int (v5 + 1))] []) : K p l e rX11_withLockers s m args below meth c 7 w 0 0 Q S 47 [(0, .ref v0), (3, .long v3), (5, .int v5)] [] := by
  refine k_iinc (v := v5 + 1) (lst' := [(5, .int (v5 + 1)), (0, .ref v0), (3, .long v3)]) B 2 rfl rfl (by decide) rfl dX11_withLockers_47 ?_
  refine k_goto (tgt := 5) B dX11_withLockers_50 (by decide) ?_
  refine k_sub [1, 2, 0] rfl ?_
  exact kk
theorem bX11_withLockers_53 (B : Bd p s m args meth c cX11_withLockers 7 (wsOf yX11_withLockers cX11_withLockers 7 (some .long)) RX11 w (some .long) "withLockers") {v3 : Int64} {post : Int64 → St → Prop}  (hq : post v3 S) : K p l e rX11_withLockers s m args below meth c 7 w 0 0 (MQ below (va_Ql post (fun S' t => Hd w S' t.heap) (wA w)) args s 0 0 (wA w)) S 53 [(3, .long v3)] [] := by
  refine k_lload_n B 0 rfl rfl dX11_withLockers_53 ?_
  exact ret_L B rfl dX11_withLockers_54 (hq)
theorem bX11_withParcels_0 (B : Bd p s m args meth c cX11_withParcels 7 (wsOf yX11_withParcels cX11_withParcels 7 (some .long)) RX11 w (some .long) "withParcels") {v0 : Nat} {v1 : Int64} {Q : State → Prop}  (kk : K p l e rX11_withParcels s m args below meth c 7 w 0 0 Q S 5 [(0, .ref v0), (3, .long v1), (5, .int 0)] []) : K p l e rX11_withParcels s m args below meth c 7 w 0 0 Q S 0 [(0, .ref v0), (1, .long v1)] [] := by
  refine k_lload_n B 1 rfl rfl dX11_withParcels_0 ?_
  refine k_lstore_n (lst' := [(3, .long v1), (0, .ref v0), (1, .long v1)]) B rfl (by decide) rfl dX11_withParcels_1 ?_
  refine k_iconst (v := 0) B (by decide) dX11_withParcels_2 ?_
  refine k_istore (lst' := [(5, .int 0), (3, .long v1), (0, .ref v0), (1, .long v1)]) B (by decide) rfl dX11_withParcels_3 ?_
  refine k_sub [2, 1, 0] rfl ?_
  exact kk
theorem bX11_withParcels_5 (B : Bd p s m args meth c cX11_withParcels 7 (wsOf yX11_withParcels cX11_withParcels 7 (some .long)) RX11 w (some .long) "withParcels") {v0 : Nat} {v3 : Int64} {v5 : Int32} {x1 : Nat} {post : Int32 → St → Prop} {Q : State → Prop} (h1 : kd S v0 = 13) (h2 : gP S 772 v0 = some x1) (hc : ConI l yJx4a65c_size_8abf5 (wsOf yJx4a65c_size_8abf5 cJx4a65c_size_8abf5 1 (some .int)) rJx4a65c_size_8abf5 w S [.ref x1] post) (h3 : kd S x1 = 1) (kk : ∀ (r : Int32) (S' : St), post r S' → K p l e rX11_withParcels s m args below meth c 7 w 0 0 Q S' 14 [(0, .ref v0), (3, .long v3), (5, .int v5)] [.int r, .int v5]) : K p l e rX11_withParcels s m args below meth c 7 w 0 0 Q S 5 [(0, .ref v0), (3, .long v3), (5, .int v5)] [] := by
  refine k_iload B 2 rfl dX11_withParcels_5 ?_
  refine k_aload_n B 0 rfl rfl dX11_withParcels_7 ?_
  refine k_getP (f := 772) (r := gP S 772 v0) B 12 4 rfl (by decide) rfl (by decide) rfl rfl (fun w h => in_of (uw_12 w h)) (in_of qfRX11_29) dX11_withParcels_8 h1 rfl ?_
  rw [h2]; change K _ _ _ _ _ _ _ _ _ _ _ _ _ _ _ _ _ _ (.ref x1 :: _)
  refine callV_I (st := [.int v5]) B [] (hc) (cwV 0 B.1.2.2.2.2 (gV qlRX11_101 qiJx4a65c_size_8abf5 qeJx4a65c_size_8abf5 qzRJx4a65c qcJx4a65c_size_8abf5) rfl rfl rfl (by decide +kernel) ⟨Nat.le_of_ble_eq_true rfl, Nat.le_of_ble_eq_true rfl⟩) rfl rfl (by decide) h3 (Nat.le_of_ble_eq_true rfl) rfl dX11_withParcels_11 ⟨Nat.le_of_ble_eq_true rfl, Nat.le_of_ble_eq_true rfl⟩ (fun r S' hp => ?_)
  exact kk r S' hp
theorem bX11_withParcels_14 (B : Bd p s m args meth c cX11_withParcels 7 (wsOf yX11_withParcels cX11_withParcels 7 (some .long)) RX11 w (some .long) "withParcels") {v0 : Nat} {v3 : Int64} {v5 : Int32} {t0 : Int32} {t1 : Int32} {Q : State → Prop}  (kt : t1 ≤ t0 → K p l e rX11_withParcels s m args below meth c 7 w 0 0 Q S 63 [(3, .long v3)] []) (kf : ¬ t1 ≤ t0 → K p l e rX11_withParcels s m args below meth c 7 w 0 0 Q S 17 [(0, .ref v0), (3, .long v3), (5, .int v5)] []) : K p l e rX11_withParcels s m args below meth c 7 w 0 0 Q S 14 [(0, .ref v0), (3, .long v3), (5, .int v5)] [.int t1, .int t0] := by
  refine k_icmp_ge (tgt := 63) B dX11_withParcels_14 (by decide) (fun c => ?_) (fun c => ?_)
  · refine k_sub [1] rfl ?_
    exact kt c
  · exact kf c
theorem bX11_withParcels_17 (B : Bd p s m args meth c cX11_withParcels 7 (wsOf yX11_withParcels cX11_withParcels 7 (some .long)) RX11 w (some .long) "withParcels") {v0 : Nat} {v3 : Int64} {v5 : Int32} {Q : State → Prop}  (kk : K p l e rX11_withParcels s m args below meth c 7 w 0 0 Q S 20 [(0, .ref v0), (3, .long v3), (5, .int v5), (6, .int 0)] []) : K p l e rX11_withParcels s m args below meth c 7 w 0 0 Q S 17 [(0, .ref v0), (3, .long v3), (5, .int v5)] [] := by
  refine k_iconst (v := 0) B (by decide) dX11_withParcels_17 ?_
  refine k_istore (lst' := [(6, .int 0), (0, .ref v0), (3, .long v3), (5, .int v5)]) B (by decide) rfl dX11_withParcels_18 ?_
  refine k_sub [1, 2, 3, 0] rfl ?_
  exact kk
theorem bX11_withParcels_20 (B : Bd p s m args meth c cX11_withParcels 7 (wsOf yX11_withParcels cX11_withParcels 7 (some .long)) RX11 w (some .long) "withParcels") {v0 : Nat} {v3 : Int64} {v5 : Int32} {v6 : Int32} {Q : State → Prop}  (kt : 9 ≤ v6 → K p l e rX11_withParcels s m args below meth c 7 w 0 0 Q S 57 [(0, .ref v0), (3, .long v3), (5, .int v5)] []) (kf : ¬ 9 ≤ v6 → K p l e rX11_withParcels s m args below meth c 7 w 0 0 Q S 27 [(0, .ref v0), (3, .long v3), (5, .int v5), (6, .int v6)] []) : K p l e rX11_withParcels s m args below meth c 7 w 0 0 Q S 20 [(0, .ref v0), (3, .long v3), (5, .int v5), (6, .int v6)] [] := by
  refine k_iload B 3 rfl dX11_withParcels_20 ?_
  refine k_bipush (v := 9) B (by decide) dX11_withParcels_22 ?_
  refine k_icmp_ge (tgt := 57) B dX11_withParcels_24 (by decide) (fun c => ?_) (fun c => ?_)
  · refine k_sub [0, 1, 2] rfl ?_
    exact kt c
  · exact kf c
theorem bX11_withParcels_27 (B : Bd p s m args meth c cX11_withParcels 7 (wsOf yX11_withParcels cX11_withParcels 7 (some .long)) RX11 w (some .long) "withParcels") {v0 : Nat} {v3 : Int64} {v5 : Int32} {v6 : Int32} {x1 : Nat} {post : Nat → St → Prop} {Q : State → Prop} (h1 : kd S v0 = 13) (h2 : gP S 772 v0 = some x1) (hc : ConR l yJx4a65c_get_915e3 (wsOf yJx4a65c_get_915e3 cJx4a65c_get_915e3 2 (some (.object "java/lang/Object"))) rJx4a65c_get_915e3 w S [.ref x1, .int v5] post) (h3 : kd S x1 = 1) (kk : ∀ (r : Nat) (S' : St), post r S' → K p l e rX11_withParcels s m args below meth c 7 w 0 0 Q S' 38 [(0, .ref v0), (5, .int v5), (6, .int v6)] [.ref r, .ref v0, .long v3]) : K p l e rX11_withParcels s m args below meth c 7 w 0 0 Q S 27 [(0, .ref v0), (3, .long v3), (5, .int v5), (6, .int v6)] [] := by
  refine k_lload_n B 1 rfl rfl dX11_withParcels_27 ?_
  refine k_aload_n B 0 rfl rfl dX11_withParcels_28 ?_
  refine k_aload_n B 0 rfl rfl dX11_withParcels_29 ?_
  refine k_getP (f := 772) (r := gP S 772 v0) B 12 4 rfl (by decide) rfl (by decide) rfl rfl (fun w h => in_of (uw_12 w h)) (in_of qfRX11_29) dX11_withParcels_30 h1 rfl ?_
  rw [h2]; change K _ _ _ _ _ _ _ _ _ _ _ _ _ _ _ _ _ _ (.ref x1 :: _)
  refine k_iload B 2 rfl dX11_withParcels_33 ?_
  refine callV_R (st := [.ref v0, .long v3]) B [.int v5] (hc) (cwV 1 B.1.2.2.2.2 (gV qlRX11_124 qiJx4a65c_get_915e3 qeJx4a65c_get_915e3 qzRJx4a65c qcJx4a65c_get_915e3) rfl rfl rfl (by decide +kernel) ⟨Nat.le_of_ble_eq_true rfl, Nat.le_of_ble_eq_true rfl⟩) rfl rfl (by decide) h3 (Nat.le_of_ble_eq_true rfl) rfl dX11_withParcels_35 ⟨Nat.le_of_ble_eq_true rfl, Nat.le_of_ble_eq_true rfl⟩ (fun r S' hp => ?_)
  refine k_sub [0, 2, 3] rfl ?_
  exact kk r S' hp
theorem bX11_withParcels_38 (B : Bd p s m args meth c cX11_withParcels 7 (wsOf yX11_withParcels cX11_withParcels 7 (some .long)) RX11 w (some .long) "withParcels") {v0 : Nat} {v5 : Int32} {v6 : Int32} {t0 : Int64} {t1 : Nat} {t2 : Nat} {post : Int32 → St → Prop} {Q : State → Prop} (h1 : kd S t2 = 5) (hc : ConI l yX11_factOfParcel (wsOf yX11_factOfParcel cX11_factOfParcel 3 (some .int)) rX11_factOfParcel w S [.ref t1, .ref t2, .int v6] post) (h2 : kd S t1 = 13) (kk : ∀ (r : Int32) (S' : St), post r S' → K p l e rX11_withParcels s m args below meth c 7 w 0 0 Q S' 46 [(0, .ref v0), (5, .int v5), (6, .int v6)] [.int r, .long t0]) : K p l e rX11_withParcels s m args below meth c 7 w 0 0 Q S 38 [(0, .ref v0), (5, .int v5), (6, .int v6)] [.ref t2, .ref t1, .long t0] := by
  refine k_cast B 4 rfl (by decide) (in_of qkRX11_144) dX11_withParcels_38 h1 ?_
  refine k_iload B 2 rfl dX11_withParcels_41 ?_
  refine callV_I (st := [.long t0]) B [.ref t2, .int v6] (hc) (cwV 2 B.1.2.2.2.2 (gV qlRX11_156 qiX11_factOfParcel qeX11_factOfParcel qzRX11 qcX11_factOfParcel) rfl rfl rfl (by decide +kernel) ⟨Nat.le_of_ble_eq_true rfl, Nat.le_of_ble_eq_true rfl⟩) rfl rfl (by decide) h2 (Nat.le_of_ble_eq_true rfl) rfl dX11_withParcels_43 ⟨Nat.le_of_ble_eq_true rfl, Nat.le_of_ble_eq_true rfl⟩ (fun r S' hp => ?_)
  exact kk r S' hp
theorem bX11_withParcels_46 (B : Bd p s m args meth c cX11_withParcels 7 (wsOf yX11_withParcels cX11_withParcels 7 (some .long)) RX11 w (some .long) "withParcels") {v0 : Nat} {v5 : Int32} {v6 : Int32} {t0 : Int64} {t1 : Int32} {post : Int64 → St → Prop} {Q : State → Prop} (hc : ConL l yX11_mixed (wsOf yX11_mixed cX11_mixed 4 (some .long)) rX11_mixed w S [.long t0, .long (t1.toInt64)] post) (kk : ∀ (r : Int64) (S' : St), post r S' → K p l e rX11_withParcels s m args below meth c 7 w 0 0 Q S' 50 [(0, .ref v0), (5, .int v5), (6, .int v6)] [.long r]) : K p l e rX11_withParcels s m args below meth c 7 w 0 0 Q S 46 [(0, .ref v0), (5, .int v5), (6, .int v6)] [.int t1, .long t0] := by
  refine k_i2l B dX11_withParcels_46 ?_
  refine callS_L (st := []) B [.long t0, .long (t1.toInt64)] (hc) (va_cwS 2 B.1.2.2.2.2 (gS qlRX11_301 qsX11_mixed qzRX11 qcX11_mixed) rfl rfl rfl (by decide +kernel) ⟨Nat.le_of_ble_eq_true rfl, Nat.le_of_ble_eq_true rfl⟩) rfl (Nat.le_of_ble_eq_true rfl) rfl dX11_withParcels_47 ⟨Nat.le_of_ble_eq_true rfl, Nat.le_of_ble_eq_true rfl⟩ (fun r S' hp => ?_)
  exact kk r S' hp
theorem bX11_withParcels_50 (B : Bd p s m args meth c cX11_withParcels 7 (wsOf yX11_withParcels cX11_withParcels 7 (some .long)) RX11 w (some .long) "withParcels") {v0 : Nat} {v5 : Int32} {v6 : Int32} {t0 : Int64} {Q : State → Prop}  (kk : K p l e rX11_withParcels s m args below meth c 7 w 0 0 Q S 20 [(0, .ref v0), (3, .long t0), (5, .int v5), (6, .int (v6 + 1))] []) : K p l e rX11_withParcels s m args below meth c 7 w 0 0 Q S 50 [(0, .ref v0), (5, .int v5), (6, .int v6)] [.long t0] := by
  refine k_lstore_n (lst' := [(3, .long t0), (0, .ref v0), (5, .int v5), (6, .int v6)]) B rfl (by decide) rfl dX11_withParcels_50 ?_
  refine k_iinc (v := v6 + 1) (lst' := [(6, .int (v6 + 1)), (3, .long t0), (0, .ref v0), (5, .int v5)]) B 3 rfl rfl (by decide) rfl dX11_withParcels_51 ?_
  refine k_goto (tgt := 20) B dX11_withParcels_54 (by decide) ?_
  refine k_sub [2, 1, 3, 0] rfl ?_
  exact kk
theorem bX11_withParcels_57 (B : Bd p s m args meth c cX11_withParcels 7 (wsOf yX11_withParcels cX11_withParcels 7 (some .long)) RX11 w (some .long) "withParcels") {v0 : Nat} {v3 : Int64} {v5 : Int32} {Q : State → Prop}  (kk : K p l e rX11_withParcels s m args below meth c 7 w 0 0 Q S 5 [(0, .ref v0), (3, .long v3), (5, .int (v5 + 1))] []) : K p l e rX11_withParcels s m args below meth c 7 w 0 0 Q S 57 [(0, .ref v0), (3, .long v3), (5, .int v5)] [] := by
  refine k_iinc (v := v5 + 1) (lst' := [(5, .int (v5 + 1)), (0, .ref v0), (3, .long v3)]) B 2 rfl rfl (by decide) rfl dX11_withParcels_57 ?_
  refine k_goto (tgt := 5) B dX11_withParcels_60 (by decide) ?_
  refine k_sub [1, 2, 0] rfl ?_
  exact kk
theorem bX11_withParcels_63 (B : Bd p s m args meth c cX11_withParcels 7 (wsOf yX11_withParcels cX11_withParcels 7 (some .long)) RX11 w (some .long) "withParcels") {v3 : Int64} {post : Int64 → St → Prop}  (hq : post v3 S) : K p l e rX11_withParcels s m args below meth c 7 w 0 0 (MQ below (va_Ql post (fun S' t => Hd w S' t.heap) (wA w)) args s 0 0 (wA w)) S 63 [(3, .long v3)] [] := by
  refine k_lload_n B 0 rfl rfl dX11_withParcels_63 ?_
  exact ret_L B rfl dX11_withParcels_64 (hq)
theorem bX11_withVans_0 (B : Bd p s m args meth c cX11_withVans 8 (wsOf yX11_withVans cX11_withVans 8 (some .long)) RX11 w (some .long) "withVans") {v0 : Nat} {v1 : Int64} {Q : State → Prop}  (kk : K p l e rX11_withVans s m args below meth c 8 w 0 0 Q S 5 [(0, .ref v0), (3, .long v1), (5, .int 0)] []) : K p l e rX11_withVans s m args below meth c 8 w 0 0 Q S 0 [(0, .ref v0), (1, .long v1)] [] := by
  refine k_lload_n B 1 rfl rfl dX11_withVans_0 ?_
  refine k_lstore_n (lst' := [(3, .long v1), (0, .ref v0), (1, .long v1)]) B rfl (by decide) rfl dX11_withVans_1 ?_
  refine k_iconst (v := 0) B (by decide) dX11_withVans_2 ?_
  refine k_istore (lst' := [(5, .int 0), (3, .long v1), (0, .ref v0), (1, .long v1)]) B (by decide) rfl dX11_withVans_3 ?_
  refine k_sub [2, 1, 0] rfl ?_
  exact kk
theorem bX11_withVans_5 (B : Bd p s m args meth c cX11_withVans 8 (wsOf yX11_withVans cX11_withVans 8 (some .long)) RX11 w (some .long) "withVans") {v0 : Nat} {v3 : Int64} {v5 : Int32} {x1 : Nat} {post : Int32 → St → Prop} {Q : State → Prop} (h1 : kd S v0 = 13) (h2 : gP S 771 v0 = some x1) (hc : ConI l yJx4a65c_size_8abf5 (wsOf yJx4a65c_size_8abf5 cJx4a65c_size_8abf5 1 (some .int)) rJx4a65c_size_8abf5 w S [.ref x1] post) (h3 : kd S x1 = 1) (kk : ∀ (r : Int32) (S' : St), post r S' → K p l e rX11_withVans s m args below meth c 8 w 0 0 Q S' 14 [(0, .ref v0), (3, .long v3), (5, .int v5)] [.int r, .int v5]) : K p l e rX11_withVans s m args below meth c 8 w 0 0 Q S 5 [(0, .ref v0), (3, .long v3), (5, .int v5)] [] := by
  refine k_iload B 2 rfl dX11_withVans_5 ?_
  refine k_aload_n B 0 rfl rfl dX11_withVans_7 ?_
  refine k_getP (f := 771) (r := gP S 771 v0) B 12 3 rfl (by decide) rfl (by decide) rfl rfl (fun w h => in_of (uw_12 w h)) (in_of qfRX11_26) dX11_withVans_8 h1 rfl ?_
  rw [h2]; change K _ _ _ _ _ _ _ _ _ _ _ _ _ _ _ _ _ _ (.ref x1 :: _)
  refine callV_I (st := [.int v5]) B [] (hc) (cwV 0 B.1.2.2.2.2 (gV qlRX11_101 qiJx4a65c_size_8abf5 qeJx4a65c_size_8abf5 qzRJx4a65c qcJx4a65c_size_8abf5) rfl rfl rfl (by decide +kernel) ⟨Nat.le_of_ble_eq_true rfl, Nat.le_of_ble_eq_true rfl⟩) rfl rfl (by decide) h3 (Nat.le_of_ble_eq_true rfl) rfl dX11_withVans_11 ⟨Nat.le_of_ble_eq_true rfl, Nat.le_of_ble_eq_true rfl⟩ (fun r S' hp => ?_)
  exact kk r S' hp
theorem bX11_withVans_14 (B : Bd p s m args meth c cX11_withVans 8 (wsOf yX11_withVans cX11_withVans 8 (some .long)) RX11 w (some .long) "withVans") {v0 : Nat} {v3 : Int64} {v5 : Int32} {t0 : Int32} {t1 : Int32} {Q : State → Prop}  (kt : t1 ≤ t0 → K p l e rX11_withVans s m args below meth c 8 w 0 0 Q S 108 [(3, .long v3)] []) (kf : ¬ t1 ≤ t0 → K p l e rX11_withVans s m args below meth c 8 w 0 0 Q S 17 [(0, .ref v0), (3, .long v3), (5, .int v5)] []) : K p l e rX11_withVans s m args below meth c 8 w 0 0 Q S 14 [(0, .ref v0), (3, .long v3), (5, .int v5)] [.int t1, .int t0] := by
  refine k_icmp_ge (tgt := 108) B dX11_withVans_14 (by decide) (fun c => ?_) (fun c => ?_)
  · refine k_sub [1] rfl ?_
    exact kt c
  · exact kf c
theorem bX11_withVans_17 (B : Bd p s m args meth c cX11_withVans 8 (wsOf yX11_withVans cX11_withVans 8 (some .long)) RX11 w (some .long) "withVans") {v0 : Nat} {v3 : Int64} {v5 : Int32} {x1 : Nat} {post : Nat → St → Prop} {Q : State → Prop} (h1 : kd S v0 = 13) (h2 : gP S 771 v0 = some x1) (hc : ConR l yJx4a65c_get_915e3 (wsOf yJx4a65c_get_915e3 cJx4a65c_get_915e3 2 (some (.object "java/lang/Object"))) rJx4a65c_get_915e3 w S [.ref x1, .int v5] post) (h3 : kd S x1 = 1) (kk : ∀ (r : Nat) (S' : St), post r S' → K p l e rX11_withVans s m args below meth c 8 w 0 0 Q S' 26 [(0, .ref v0), (3, .long v3), (5, .int v5)] [.ref r]) : K p l e rX11_withVans s m args below meth c 8 w 0 0 Q S 17 [(0, .ref v0), (3, .long v3), (5, .int v5)] [] := by
  refine k_aload_n B 0 rfl rfl dX11_withVans_17 ?_
  refine k_getP (f := 771) (r := gP S 771 v0) B 12 3 rfl (by decide) rfl (by decide) rfl rfl (fun w h => in_of (uw_12 w h)) (in_of qfRX11_26) dX11_withVans_18 h1 rfl ?_
  rw [h2]; change K _ _ _ _ _ _ _ _ _ _ _ _ _ _ _ _ _ _ (.ref x1 :: _)
  refine k_iload B 2 rfl dX11_withVans_21 ?_
  refine callV_R (st := []) B [.int v5] (hc) (cwV 1 B.1.2.2.2.2 (gV qlRX11_124 qiJx4a65c_get_915e3 qeJx4a65c_get_915e3 qzRJx4a65c qcJx4a65c_get_915e3) rfl rfl rfl (by decide +kernel) ⟨Nat.le_of_ble_eq_true rfl, Nat.le_of_ble_eq_true rfl⟩) rfl rfl (by decide) h3 (Nat.le_of_ble_eq_true rfl) rfl dX11_withVans_23 ⟨Nat.le_of_ble_eq_true rfl, Nat.le_of_ble_eq_true rfl⟩ (fun r S' hp => ?_)
  exact kk r S' hp
theorem bX11_withVans_26 (B : Bd p s m args meth c cX11_withVans 8 (wsOf yX11_withVans cX11_withVans 8 (some .long)) RX11 w (some .long) "withVans") {v0 : Nat} {v3 : Int64} {v5 : Int32} {t0 : Nat} {Q : State → Prop} (h1 : kd S t0 = 12) (kk : K p l e rX11_withVans s m args below meth c 8 w 0 0 Q S 34 [(0, .ref v0), (3, .long v3), (5, .int v5), (6, .ref t0), (7, .int 0)] []) : K p l e rX11_withVans s m args below meth c 8 w 0 0 Q S 26 [(0, .ref v0), (3, .long v3), (5, .int v5)] [.ref t0] := by
  refine k_cast B 11 rfl (by decide) (in_of qkRX11_139) dX11_withVans_26 h1 ?_
  refine k_astore (lst' := [(6, .ref t0), (0, .ref v0), (3, .long v3), (5, .int v5)]) B (by decide) rfl dX11_withVans_29 ?_
  refine k_iconst (v := 0) B (by decide) dX11_withVans_31 ?_
  refine k_istore (lst' := [(7, .int 0), (6, .ref t0), (0, .ref v0), (3, .long v3), (5, .int v5)]) B (by decide) rfl dX11_withVans_32 ?_
  refine k_sub [2, 3, 4, 1, 0] rfl ?_
  exact kk
theorem bX11_withVans_34 (B : Bd p s m args meth c cX11_withVans 8 (wsOf yX11_withVans cX11_withVans 8 (some .long)) RX11 w (some .long) "withVans") {v0 : Nat} {v3 : Int64} {v5 : Int32} {v6 : Nat} {v7 : Int32} {Q : State → Prop}  (kt : 10 ≤ v7 → K p l e rX11_withVans s m args below meth c 8 w 0 0 Q S 61 [(0, .ref v0), (3, .long v3), (5, .int v5), (6, .ref v6)] []) (kf : ¬ 10 ≤ v7 → K p l e rX11_withVans s m args below meth c 8 w 0 0 Q S 41 [(0, .ref v0), (3, .long v3), (5, .int v5), (6, .ref v6), (7, .int v7)] []) : K p l e rX11_withVans s m args below meth c 8 w 0 0 Q S 34 [(0, .ref v0), (3, .long v3), (5, .int v5), (6, .ref v6), (7, .int v7)] [] := by
  refine k_iload B 4 rfl dX11_withVans_34 ?_
  refine k_bipush (v := 10) B (by decide) dX11_withVans_36 ?_
  refine k_icmp_ge (tgt := 61) B dX11_withVans_38 (by decide) (fun c => ?_) (fun c => ?_)
  · refine k_sub [0, 1, 2, 3] rfl ?_
    exact kt c
  · exact kf c
theorem bX11_withVans_41 (B : Bd p s m args meth c cX11_withVans 8 (wsOf yX11_withVans cX11_withVans 8 (some .long)) RX11 w (some .long) "withVans") {v0 : Nat} {v3 : Int64} {v5 : Int32} {v6 : Nat} {v7 : Int32} {post : Int32 → St → Prop} {Q : State → Prop} (hc : ConI l yX11_factOfVan (wsOf yX11_factOfVan cX11_factOfVan 4 (some .int)) rX11_factOfVan w S [.ref v0, .ref v6, .int v7] post) (h1 : kd S v0 = 13) (kk : ∀ (r : Int32) (S' : St), post r S' → K p l e rX11_withVans s m args below meth c 8 w 0 0 Q S' 50 [(0, .ref v0), (5, .int v5), (6, .ref v6), (7, .int v7)] [.int r, .long v3]) : K p l e rX11_withVans s m args below meth c 8 w 0 0 Q S 41 [(0, .ref v0), (3, .long v3), (5, .int v5), (6, .ref v6), (7, .int v7)] [] := by
  refine k_lload_n B 1 rfl rfl dX11_withVans_41 ?_
  refine k_aload_n B 0 rfl rfl dX11_withVans_42 ?_
  refine k_aload B 3 rfl dX11_withVans_43 ?_
  refine k_iload B 4 rfl dX11_withVans_45 ?_
  refine callV_I (st := [.long v3]) B [.ref v6, .int v7] (hc) (cwV 2 B.1.2.2.2.2 (gV qlRX11_208 qiX11_factOfVan qeX11_factOfVan qzRX11 qcX11_factOfVan) rfl rfl rfl (by decide +kernel) ⟨Nat.le_of_ble_eq_true rfl, Nat.le_of_ble_eq_true rfl⟩) rfl rfl (by decide) h1 (Nat.le_of_ble_eq_true rfl) rfl dX11_withVans_47 ⟨Nat.le_of_ble_eq_true rfl, Nat.le_of_ble_eq_true rfl⟩ (fun r S' hp => ?_)
  refine k_sub [0, 2, 3, 4] rfl ?_
  exact kk r S' hp
theorem bX11_withVans_50 (B : Bd p s m args meth c cX11_withVans 8 (wsOf yX11_withVans cX11_withVans 8 (some .long)) RX11 w (some .long) "withVans") {v0 : Nat} {v5 : Int32} {v6 : Nat} {v7 : Int32} {t0 : Int64} {t1 : Int32} {post : Int64 → St → Prop} {Q : State → Prop} (hc : ConL l yX11_mixed (wsOf yX11_mixed cX11_mixed 4 (some .long)) rX11_mixed w S [.long t0, .long (t1.toInt64)] post) (kk : ∀ (r : Int64) (S' : St), post r S' → K p l e rX11_withVans s m args below meth c 8 w 0 0 Q S' 54 [(0, .ref v0), (5, .int v5), (6, .ref v6), (7, .int v7)] [.long r]) : K p l e rX11_withVans s m args below meth c 8 w 0 0 Q S 50 [(0, .ref v0), (5, .int v5), (6, .ref v6), (7, .int v7)] [.int t1, .long t0] := by
  refine k_i2l B dX11_withVans_50 ?_
  refine callS_L (st := []) B [.long t0, .long (t1.toInt64)] (hc) (va_cwS 2 B.1.2.2.2.2 (gS qlRX11_301 qsX11_mixed qzRX11 qcX11_mixed) rfl rfl rfl (by decide +kernel) ⟨Nat.le_of_ble_eq_true rfl, Nat.le_of_ble_eq_true rfl⟩) rfl (Nat.le_of_ble_eq_true rfl) rfl dX11_withVans_51 ⟨Nat.le_of_ble_eq_true rfl, Nat.le_of_ble_eq_true rfl⟩ (fun r S' hp => ?_)
  exact kk r S' hp
theorem bX11_withVans_54 (B : Bd p s m args meth c cX11_withVans 8 (wsOf yX11_withVans cX11_withVans 8 (some .long)) RX11 w (some .long) "withVans") {v0 : Nat} {v5 : Int32} {v6 : Nat} {v7 : Int32} {t0 : Int64} {Q : State → Prop}  (kk : K p l e rX11_withVans s m args below meth c 8 w 0 0 Q S 34 [(0, .ref v0), (3, .long t0), (5, .int v5), (6, .ref v6), (7, .int (v7 + 1))] []) : K p l e rX11_withVans s m args below meth c 8 w 0 0 Q S 54 [(0, .ref v0), (5, .int v5), (6, .ref v6), (7, .int v7)] [.long t0] := by
  refine k_lstore_n (lst' := [(3, .long t0), (0, .ref v0), (5, .int v5), (6, .ref v6), (7, .int v7)]) B rfl (by decide) rfl dX11_withVans_54 ?_
  refine k_iinc (v := v7 + 1) (lst' := [(7, .int (v7 + 1)), (3, .long t0), (0, .ref v0), (5, .int v5), (6, .ref v6)]) B 4 rfl rfl (by decide) rfl dX11_withVans_55 ?_
  refine k_goto (tgt := 34) B dX11_withVans_58 (by decide) ?_
  refine k_sub [2, 1, 3, 4, 0] rfl ?_
  exact kk
theorem bX11_withVans_61 (B : Bd p s m args meth c cX11_withVans 8 (wsOf yX11_withVans cX11_withVans 8 (some .long)) RX11 w (some .long) "withVans") {v0 : Nat} {v3 : Int64} {v5 : Int32} {v6 : Nat} {Q : State → Prop}  (kk : K p l e rX11_withVans s m args below meth c 8 w 0 0 Q S 64 [(0, .ref v0), (3, .long v3), (5, .int v5), (6, .ref v6), (7, .int 0)] []) : K p l e rX11_withVans s m args below meth c 8 w 0 0 Q S 61 [(0, .ref v0), (3, .long v3), (5, .int v5), (6, .ref v6)] [] := by
  refine k_iconst (v := 0) B (by decide) dX11_withVans_61 ?_
  refine k_istore (lst' := [(7, .int 0), (0, .ref v0), (3, .long v3), (5, .int v5), (6, .ref v6)]) B (by decide) rfl dX11_withVans_62 ?_
  refine k_sub [1, 2, 3, 4, 0] rfl ?_
  exact kk
theorem bX11_withVans_64 (B : Bd p s m args meth c cX11_withVans 8 (wsOf yX11_withVans cX11_withVans 8 (some .long)) RX11 w (some .long) "withVans") {v0 : Nat} {v3 : Int64} {v5 : Int32} {v6 : Nat} {v7 : Int32} {x1 : Nat} {Q : State → Prop} (h1 : kd S v6 = 12) (h2 : gP S 708 v6 = some x1) (h3 : kd S x1 = 8) (kt : (gI S 449 x1) ≤ v7 → K p l e rX11_withVans s m args below meth c 8 w 0 0 Q S 102 [(0, .ref v0), (3, .long v3), (5, .int v5)] []) (kf : ¬ (gI S 449 x1) ≤ v7 → K p l e rX11_withVans s m args below meth c 8 w 0 0 Q S 77 [(0, .ref v0), (3, .long v3), (5, .int v5), (6, .ref v6), (7, .int v7)] []) : K p l e rX11_withVans s m args below meth c 8 w 0 0 Q S 64 [(0, .ref v0), (3, .long v3), (5, .int v5), (6, .ref v6), (7, .int v7)] [] := by
  refine k_iload B 4 rfl dX11_withVans_64 ?_
  refine k_aload B 3 rfl dX11_withVans_66 ?_
  refine k_getP (f := 708) (r := gP S 708 v6) B 11 4 rfl (by decide) rfl (by decide) rfl rfl (fun w h => in_of (uw_11 w h)) (in_of qfRX11_187) dX11_withVans_68 h1 rfl ?_
  rw [h2]; change K _ _ _ _ _ _ _ _ _ _ _ _ _ _ _ _ _ _ (.ref x1 :: _)
  refine k_getI (f := 449) (v := gI S 449 x1) B 7 1 rfl (by decide) rfl (by decide) rfl rfl (fun w h => in_of (uw_7 w h)) (in_of qfRX11_246) dX11_withVans_71 h3 rfl ?_
  refine k_icmp_ge (tgt := 102) B dX11_withVans_74 (by decide) (fun c => ?_) (fun c => ?_)
  · refine k_sub [0, 1, 2] rfl ?_
    exact kt c
  · exact kf c
theorem bX11_withVans_77 (B : Bd p s m args meth c cX11_withVans 8 (wsOf yX11_withVans cX11_withVans 8 (some .long)) RX11 w (some .long) "withVans") {v0 : Nat} {v3 : Int64} {v5 : Int32} {v6 : Nat} {v7 : Int32} {x1 : Nat} {post : Nat → St → Prop} {Q : State → Prop} (h1 : kd S v6 = 12) (h2 : gP S 708 v6 = some x1) (hc : ConR l yX6_at (wsOf yX6_at cX6_at 2 (some (.object "LastMile$Parcel"))) rX6_at w S [.ref x1, .int v7] post) (h3 : kd S x1 = 8) (kk : ∀ (r : Nat) (S' : St), post r S' → K p l e rX11_withVans s m args below meth c 8 w 0 0 Q S' 88 [(0, .ref v0), (5, .int v5), (6, .ref v6), (7, .int v7)] [.ref r, .long v3]) : K p l e rX11_withVans s m args below meth c 8 w 0 0 Q S 77 [(0, .ref v0), (3, .long v3), (5, .int v5), (6, .ref v6), (7, .int v7)] [] := by
  refine k_lload_n B 1 rfl rfl dX11_withVans_77 ?_
  refine k_aload B 3 rfl dX11_withVans_78 ?_
  refine k_getP (f := 708) (r := gP S 708 v6) B 11 4 rfl (by decide) rfl (by decide) rfl rfl (fun w h => in_of (uw_11 w h)) (in_of qfRX11_187) dX11_withVans_80 h1 rfl ?_
  rw [h2]; change K _ _ _ _ _ _ _ _ _ _ _ _ _ _ _ _ _ _ (.ref x1 :: _)
  refine k_iload B 4 rfl dX11_withVans_83 ?_
  refine callV_R (st := [.long v3]) B [.int v7] (hc) (cwV 1 B.1.2.2.2.2 (gV qlRX11_201 qiX6_at qeX6_at qzRX6 qcX6_at) rfl rfl rfl (by decide +kernel) ⟨Nat.le_of_ble_eq_true rfl, Nat.le_of_ble_eq_true rfl⟩) rfl rfl (by decide) h3 (Nat.le_of_ble_eq_true rfl) rfl dX11_withVans_85 ⟨Nat.le_of_ble_eq_true rfl, Nat.le_of_ble_eq_true rfl⟩ (fun r S' hp => ?_)
  refine k_sub [0, 2, 3, 4] rfl ?_
  exact kk r S' hp
theorem bX11_withVans_88 (B : Bd p s m args meth c cX11_withVans 8 (wsOf yX11_withVans cX11_withVans 8 (some .long)) RX11 w (some .long) "withVans") {v0 : Nat} {v5 : Int32} {v6 : Nat} {v7 : Int32} {t0 : Int64} {t1 : Nat} {post : Int64 → St → Prop} {Q : State → Prop} (h1 : kd S t1 = 5) (hc : ConL l yX11_mixed (wsOf yX11_mixed cX11_mixed 4 (some .long)) rX11_mixed w S [.long t0, .long ((gI S 256 t1).toInt64)] post) (kk : ∀ (r : Int64) (S' : St), post r S' → K p l e rX11_withVans s m args below meth c 8 w 0 0 Q S' 95 [(0, .ref v0), (5, .int v5), (6, .ref v6), (7, .int v7)] [.long r]) : K p l e rX11_withVans s m args below meth c 8 w 0 0 Q S 88 [(0, .ref v0), (5, .int v5), (6, .ref v6), (7, .int v7)] [.ref t1, .long t0] := by
  refine k_getI (f := 256) (v := gI S 256 t1) B 4 0 rfl (by decide) rfl (by decide) rfl rfl (fun w h => in_of (uw_4 w h)) (in_of qfRX11_205) dX11_withVans_88 h1 rfl ?_
  refine k_i2l B dX11_withVans_91 ?_
  refine callS_L (st := []) B [.long t0, .long ((gI S 256 t1).toInt64)] (hc) (va_cwS 2 B.1.2.2.2.2 (gS qlRX11_301 qsX11_mixed qzRX11 qcX11_mixed) rfl rfl rfl (by decide +kernel) ⟨Nat.le_of_ble_eq_true rfl, Nat.le_of_ble_eq_true rfl⟩) rfl (Nat.le_of_ble_eq_true rfl) rfl dX11_withVans_92 ⟨Nat.le_of_ble_eq_true rfl, Nat.le_of_ble_eq_true rfl⟩ (fun r S' hp => ?_)
  exact kk r S' hp
theorem bX11_withVans_95 (B : Bd p s m args meth c cX11_withVans 8 (wsOf yX11_withVans cX11_withVans 8 (some .long)) RX11 w (some .long) "withVans") {v0 : Nat} {v5 : Int32} {v6 : Nat} {v7 : Int32} {t0 : Int64} {Q : State → Prop}  (kk : K p l e rX11_withVans s m args below meth c 8 w 0 0 Q S 64 [(0, .ref v0), (3, .long t0), (5, .int v5), (6, .ref v6), (7, .int (v7 + 1))] []) : K p l e rX11_withVans s m args below meth c 8 w 0 0 Q S 95 [(0, .ref v0), (5, .int v5), (6, .ref v6), (7, .int v7)] [.long t0] := by
  refine k_lstore_n (lst' := [(3, .long t0), (0, .ref v0), (5, .int v5), (6, .ref v6), (7, .int v7)]) B rfl (by decide) rfl dX11_withVans_95 ?_
  refine k_iinc (v := v7 + 1) (lst' := [(7, .int (v7 + 1)), (3, .long t0), (0, .ref v0), (5, .int v5), (6, .ref v6)]) B 4 rfl rfl (by decide) rfl dX11_withVans_96 ?_
  refine k_goto (tgt := 64) B dX11_withVans_99 (by decide) ?_
  refine k_sub [2, 1, 3, 4, 0] rfl ?_
  exact kk
theorem bX11_withVans_102 (B : Bd p s m args meth c cX11_withVans 8 (wsOf yX11_withVans cX11_withVans 8 (some .long)) RX11 w (some .long) "withVans") {v0 : Nat} {v3 : Int64} {v5 : Int32} {Q : State → Prop}  (kk : K p l e rX11_withVans s m args below meth c 8 w 0 0 Q S 5 [(0, .ref v0), (3, .long v3), (5, .int (v5 + 1))] []) : K p l e rX11_withVans s m args below meth c 8 w 0 0 Q S 102 [(0, .ref v0), (3, .long v3), (5, .int v5)] [] := by
  refine k_iinc (v := v5 + 1) (lst' := [(5, .int (v5 + 1)), (0, .ref v0), (3, .long v3)]) B 2 rfl rfl (by decide) rfl dX11_withVans_102 ?_
  refine k_goto (tgt := 5) B dX11_withVans_105 (by decide) ?_
  refine k_sub [1, 2, 0] rfl ?_
  exact kk
theorem bX11_withVans_108 (B : Bd p s m args meth c cX11_withVans 8 (wsOf yX11_withVans cX11_withVans 8 (some .long)) RX11 w (some .long) "withVans") {v3 : Int64} {post : Int64 → St → Prop}  (hq : post v3 S) : K p l e rX11_withVans s m args below meth c 8 w 0 0 (MQ below (va_Ql post (fun S' t => Hd w S' t.heap) (wA w)) args s 0 0 (wA w)) S 108 [(3, .long v3)] [] := by
  refine k_lload_n B 0 rfl rfl dX11_withVans_108 ?_
  exact ret_L B rfl dX11_withVans_109 (hq)
end BL
