theorem dX5_init_0 : decode cX5_init 0 = .ok (.aload_n 0, 1) := by decide +kernel
theorem dX5_init_1 : decode cX5_init 1 = .ok (.invokespecial 3, 3) := by decide +kernel
theorem dX5_init_4 : decode cX5_init 4 = .ok (.aload_n 0, 1) := by decide +kernel
theorem dX5_init_5 : decode cX5_init 5 = .ok (.iconst 0, 1) := by decide +kernel
theorem dX5_init_6 : decode cX5_init 6 = .ok (.putfield 9, 3) := by decide +kernel
theorem dX5_init_9 : decode cX5_init 9 = .ok (.aload_n 0, 1) := by decide +kernel
theorem dX5_init_10 : decode cX5_init 10 = .ok (.iconst 0, 1) := by decide +kernel
theorem dX5_init_11 : decode cX5_init 11 = .ok (.putfield 15, 3) := by decide +kernel
theorem dX5_init_14 : decode cX5_init 14 = .ok (.aload_n 0, 1) := by decide +kernel
theorem dX5_init_15 : decode cX5_init 15 = .ok (.aload_n 1, 1) := by decide +kernel
theorem dX5_init_16 : decode cX5_init 16 = .ok (.putfield 18, 3) := by decide +kernel
theorem dX5_init_19 : decode cX5_init 19 = .ok (.aload_n 0, 1) := by decide +kernel
theorem dX5_init_20 : decode cX5_init 20 = .ok (.aload_n 2, 1) := by decide +kernel
theorem dX5_init_21 : decode cX5_init 21 = .ok (.putfield 22, 3) := by decide +kernel
theorem dX5_init_24 : decode cX5_init 24 = .ok (.aload_n 0, 1) := by decide +kernel
theorem dX5_init_25 : decode cX5_init 25 = .ok (.aload_n 3, 1) := by decide +kernel
theorem dX5_init_26 : decode cX5_init 26 = .ok (.putfield 26, 3) := by decide +kernel
theorem dX5_init_29 : decode cX5_init 29 = .ok (.aload_n 0, 1) := by decide +kernel
theorem dX5_init_30 : decode cX5_init 30 = .ok (.new 29, 3) := by decide +kernel
theorem dX5_init_33 : decode cX5_init 33 = .ok (.dup, 1) := by decide +kernel
theorem dX5_init_34 : decode cX5_init 34 = .ok (.aload_n 1, 1) := by decide +kernel
theorem dX5_init_35 : decode cX5_init 35 = .ok (.invokespecial 31, 3) := by decide +kernel
theorem dX5_init_38 : decode cX5_init 38 = .ok (.putfield 34, 3) := by decide +kernel
theorem dX5_init_41 : decode cX5_init 41 = .ok (.return_, 1) := by decide +kernel
theorem dX5_begin_0 : decode cX5_begin 0 = .ok (.aload_n 0, 1) := by decide +kernel
theorem dX5_begin_1 : decode cX5_begin 1 = .ok (.iconst 0, 1) := by decide +kernel
theorem dX5_begin_2 : decode cX5_begin 2 = .ok (.putfield 9, 3) := by decide +kernel
theorem dX5_begin_5 : decode cX5_begin 5 = .ok (.aload_n 0, 1) := by decide +kernel
theorem dX5_begin_6 : decode cX5_begin 6 = .ok (.iconst 0, 1) := by decide +kernel
theorem dX5_begin_7 : decode cX5_begin 7 = .ok (.putfield 15, 3) := by decide +kernel
theorem dX5_begin_10 : decode cX5_begin 10 = .ok (.return_, 1) := by decide +kernel
theorem dX5_driveVan_0 : decode cX5_driveVan 0 = .ok (.aload_n 0, 1) := by decide +kernel
theorem dX5_driveVan_1 : decode cX5_driveVan 1 = .ok (.getfield 34, 3) := by decide +kernel
theorem dX5_driveVan_4 : decode cX5_driveVan 4 = .ok (.aload_n 1, 1) := by decide +kernel
theorem dX5_driveVan_5 : decode cX5_driveVan 5 = .ok (.getfield 38, 3) := by decide +kernel
theorem dX5_driveVan_8 : decode cX5_driveVan 8 = .ok (.invokevirtual 43, 3) := by decide +kernel
theorem dX5_driveVan_11 : decode cX5_driveVan 11 = .ok (.iconst 0, 1) := by decide +kernel
theorem dX5_driveVan_12 : decode cX5_driveVan 12 = .ok (.istore_n 2, 1) := by decide +kernel
theorem dX5_driveVan_13 : decode cX5_driveVan 13 = .ok (.iload_n 2, 1) := by decide +kernel
theorem dX5_driveVan_14 : decode cX5_driveVan 14 = .ok (.aload_n 1, 1) := by decide +kernel
theorem dX5_driveVan_15 : decode cX5_driveVan 15 = .ok (.getfield 47, 3) := by decide +kernel
theorem dX5_driveVan_18 : decode cX5_driveVan 18 = .ok (.getfield 51, 3) := by decide +kernel
theorem dX5_driveVan_21 : decode cX5_driveVan 21 = .ok (.if_icmp .ge 65, 3) := by decide +kernel
theorem dX5_driveVan_24 : decode cX5_driveVan 24 = .ok (.aload_n 0, 1) := by decide +kernel
theorem dX5_driveVan_25 : decode cX5_driveVan 25 = .ok (.getfield 34, 3) := by decide +kernel
theorem dX5_driveVan_28 : decode cX5_driveVan 28 = .ok (.getfield 56, 3) := by decide +kernel
theorem dX5_driveVan_31 : decode cX5_driveVan 31 = .ok (.aload_n 1, 1) := by decide +kernel
theorem dX5_driveVan_32 : decode cX5_driveVan 32 = .ok (.getfield 59, 3) := by decide +kernel
theorem dX5_driveVan_35 : decode cX5_driveVan 35 = .ok (.bipush 60, 2) := by decide +kernel
theorem dX5_driveVan_37 : decode cX5_driveVan 37 = .ok (.iadd, 1) := by decide +kernel
theorem dX5_driveVan_38 : decode cX5_driveVan 38 = .ok (.if_icmp .gt 48, 3) := by decide +kernel
theorem dX5_driveVan_41 : decode cX5_driveVan 41 = .ok (.aload_n 1, 1) := by decide +kernel
theorem dX5_driveVan_42 : decode cX5_driveVan 42 = .ok (.getfield 47, 3) := by decide +kernel
theorem dX5_driveVan_45 : decode cX5_driveVan 45 = .ok (.iload_n 2, 1) := by decide +kernel
theorem dX5_driveVan_46 : decode cX5_driveVan 46 = .ok (.invokevirtual 62, 3) := by decide +kernel
theorem dX5_driveVan_49 : decode cX5_driveVan 49 = .ok (.astore_n 3, 1) := by decide +kernel
theorem dX5_driveVan_50 : decode cX5_driveVan 50 = .ok (.aload_n 0, 1) := by decide +kernel
theorem dX5_driveVan_51 : decode cX5_driveVan 51 = .ok (.aload_n 3, 1) := by decide +kernel
theorem dX5_driveVan_52 : decode cX5_driveVan 52 = .ok (.invokevirtual 66, 3) := by decide +kernel
theorem dX5_driveVan_55 : decode cX5_driveVan 55 = .ok (.aload_n 3, 1) := by decide +kernel
theorem dX5_driveVan_56 : decode cX5_driveVan 56 = .ok (.getfield 70, 3) := by decide +kernel
theorem dX5_driveVan_59 : decode cX5_driveVan 59 = .ok (.ifCond .ne 16, 3) := by decide +kernel
theorem dX5_driveVan_62 : decode cX5_driveVan 62 = .ok (.aload_n 3, 1) := by decide +kernel
theorem dX5_driveVan_63 : decode cX5_driveVan 63 = .ok (.getfield 75, 3) := by decide +kernel
theorem dX5_driveVan_66 : decode cX5_driveVan 66 = .ok (.iconst 2, 1) := by decide +kernel
theorem dX5_driveVan_67 : decode cX5_driveVan 67 = .ok (.if_icmp .eq 8, 3) := by decide +kernel
theorem dX5_driveVan_70 : decode cX5_driveVan 70 = .ok (.aload_n 0, 1) := by decide +kernel
theorem dX5_driveVan_71 : decode cX5_driveVan 71 = .ok (.aload_n 3, 1) := by decide +kernel
theorem dX5_driveVan_72 : decode cX5_driveVan 72 = .ok (.invokevirtual 78, 3) := by decide +kernel
theorem dX5_driveVan_75 : decode cX5_driveVan 75 = .ok (.aload_n 0, 1) := by decide +kernel
theorem dX5_driveVan_76 : decode cX5_driveVan 76 = .ok (.aload_n 3, 1) := by decide +kernel
theorem dX5_driveVan_77 : decode cX5_driveVan 77 = .ok (.invokevirtual 81, 3) := by decide +kernel
theorem dX5_driveVan_80 : decode cX5_driveVan 80 = .ok (.iinc 2 1, 3) := by decide +kernel
theorem dX5_driveVan_83 : decode cX5_driveVan 83 = .ok (.goto (-70), 3) := by decide +kernel
theorem dX5_driveVan_86 : decode cX5_driveVan 86 = .ok (.aload_n 0, 1) := by decide +kernel
theorem dX5_driveVan_87 : decode cX5_driveVan 87 = .ok (.getfield 34, 3) := by decide +kernel
theorem dX5_driveVan_90 : decode cX5_driveVan 90 = .ok (.aload_n 0, 1) := by decide +kernel
theorem dX5_driveVan_91 : decode cX5_driveVan 91 = .ok (.getfield 18, 3) := by decide +kernel
theorem dX5_driveVan_94 : decode cX5_driveVan 94 = .ok (.getfield 84, 3) := by decide +kernel
theorem dX5_driveVan_97 : decode cX5_driveVan 97 = .ok (.invokevirtual 90, 3) := by decide +kernel
theorem dX5_driveVan_100 : decode cX5_driveVan 100 = .ok (.aload_n 0, 1) := by decide +kernel
theorem dX5_driveVan_101 : decode cX5_driveVan 101 = .ok (.getfield 34, 3) := by decide +kernel
theorem dX5_driveVan_104 : decode cX5_driveVan 104 = .ok (.getfield 56, 3) := by decide +kernel
theorem dX5_driveVan_107 : decode cX5_driveVan 107 = .ok (.aload_n 0, 1) := by decide +kernel
theorem dX5_driveVan_108 : decode cX5_driveVan 108 = .ok (.getfield 15, 3) := by decide +kernel
theorem dX5_driveVan_111 : decode cX5_driveVan 111 = .ok (.if_icmp .le 14, 3) := by decide +kernel
theorem dX5_driveVan_114 : decode cX5_driveVan 114 = .ok (.aload_n 0, 1) := by decide +kernel
theorem dX5_driveVan_115 : decode cX5_driveVan 115 = .ok (.aload_n 0, 1) := by decide +kernel
theorem dX5_driveVan_116 : decode cX5_driveVan 116 = .ok (.getfield 34, 3) := by decide +kernel
theorem dX5_driveVan_119 : decode cX5_driveVan 119 = .ok (.getfield 56, 3) := by decide +kernel
theorem dX5_driveVan_122 : decode cX5_driveVan 122 = .ok (.putfield 15, 3) := by decide +kernel
theorem dX5_driveVan_125 : decode cX5_driveVan 125 = .ok (.return_, 1) := by decide +kernel
theorem dX5_visit_0 : decode cX5_visit 0 = .ok (.aload_n 0, 1) := by decide +kernel
theorem dX5_visit_1 : decode cX5_visit 1 = .ok (.getfield 34, 3) := by decide +kernel
theorem dX5_visit_4 : decode cX5_visit 4 = .ok (.aload_n 1, 1) := by decide +kernel
theorem dX5_visit_5 : decode cX5_visit 5 = .ok (.getfield 94, 3) := by decide +kernel
theorem dX5_visit_8 : decode cX5_visit 8 = .ok (.getfield 98, 3) := by decide +kernel
theorem dX5_visit_11 : decode cX5_visit 11 = .ok (.invokevirtual 90, 3) := by decide +kernel
theorem dX5_visit_14 : decode cX5_visit 14 = .ok (.aload_n 0, 1) := by decide +kernel
theorem dX5_visit_15 : decode cX5_visit 15 = .ok (.getfield 34, 3) := by decide +kernel
theorem dX5_visit_18 : decode cX5_visit 18 = .ok (.aload_n 1, 1) := by decide +kernel
theorem dX5_visit_19 : decode cX5_visit 19 = .ok (.getfield 103, 3) := by decide +kernel
theorem dX5_visit_22 : decode cX5_visit 22 = .ok (.invokevirtual 106, 3) := by decide +kernel
theorem dX5_visit_25 : decode cX5_visit 25 = .ok (.aload_n 1, 1) := by decide +kernel
theorem dX5_visit_26 : decode cX5_visit 26 = .ok (.getfield 94, 3) := by decide +kernel
theorem dX5_visit_29 : decode cX5_visit 29 = .ok (.aload_n 0, 1) := by decide +kernel
theorem dX5_visit_30 : decode cX5_visit 30 = .ok (.getfield 34, 3) := by decide +kernel
theorem dX5_visit_33 : decode cX5_visit 33 = .ok (.getfield 56, 3) := by decide +kernel
theorem dX5_visit_36 : decode cX5_visit 36 = .ok (.invokevirtual 109, 3) := by decide +kernel
theorem dX5_visit_39 : decode cX5_visit 39 = .ok (.ifCond .eq 11, 3) := by decide +kernel
theorem dX5_visit_42 : decode cX5_visit 42 = .ok (.aload_n 1, 1) := by decide +kernel
theorem dX5_visit_43 : decode cX5_visit 43 = .ok (.iconst 1, 1) := by decide +kernel
theorem dX5_visit_44 : decode cX5_visit 44 = .ok (.putfield 70, 3) := by decide +kernel
theorem dX5_visit_47 : decode cX5_visit 47 = .ok (.goto 13, 3) := by decide +kernel
theorem dX5_visit_50 : decode cX5_visit 50 = .ok (.aload_n 1, 1) := by decide +kernel
theorem dX5_visit_51 : decode cX5_visit 51 = .ok (.dup, 1) := by decide +kernel
theorem dX5_visit_52 : decode cX5_visit 52 = .ok (.getfield 113, 3) := by decide +kernel
theorem dX5_visit_55 : decode cX5_visit 55 = .ok (.iconst 1, 1) := by decide +kernel
theorem dX5_visit_56 : decode cX5_visit 56 = .ok (.iadd, 1) := by decide +kernel
theorem dX5_visit_57 : decode cX5_visit 57 = .ok (.putfield 113, 3) := by decide +kernel
theorem dX5_visit_60 : decode cX5_visit 60 = .ok (.aload_n 0, 1) := by decide +kernel
theorem dX5_visit_61 : decode cX5_visit 61 = .ok (.getfield 34, 3) := by decide +kernel
theorem dX5_visit_64 : decode cX5_visit 64 = .ok (.iconst 4, 1) := by decide +kernel
theorem dX5_visit_65 : decode cX5_visit 65 = .ok (.invokevirtual 116, 3) := by decide +kernel
theorem dX5_visit_68 : decode cX5_visit 68 = .ok (.return_, 1) := by decide +kernel
theorem dX5_settle_0 : decode cX5_settle 0 = .ok (.aload_n 1, 1) := by decide +kernel
theorem dX5_settle_1 : decode cX5_settle 1 = .ok (.getfield 70, 3) := by decide +kernel
theorem dX5_settle_4 : decode cX5_settle 4 = .ok (.ifCond .eq 16, 3) := by decide +kernel
theorem dX5_settle_7 : decode cX5_settle 7 = .ok (.aload_n 0, 1) := by decide +kernel
theorem dX5_settle_8 : decode cX5_settle 8 = .ok (.dup, 1) := by decide +kernel
theorem dX5_settle_9 : decode cX5_settle 9 = .ok (.getfield 9, 3) := by decide +kernel
theorem dX5_settle_12 : decode cX5_settle 12 = .ok (.iconst 1, 1) := by decide +kernel
theorem dX5_settle_13 : decode cX5_settle 13 = .ok (.iadd, 1) := by decide +kernel
theorem dX5_settle_14 : decode cX5_settle 14 = .ok (.putfield 9, 3) := by decide +kernel
theorem dX5_settle_17 : decode cX5_settle 17 = .ok (.goto 16, 3) := by decide +kernel
theorem dX5_settle_20 : decode cX5_settle 20 = .ok (.aload_n 1, 1) := by decide +kernel
theorem dX5_settle_21 : decode cX5_settle 21 = .ok (.getfield 113, 3) := by decide +kernel
theorem dX5_settle_24 : decode cX5_settle 24 = .ok (.iconst 3, 1) := by decide +kernel
theorem dX5_settle_25 : decode cX5_settle 25 = .ok (.if_icmp .lt 8, 3) := by decide +kernel
theorem dX5_settle_28 : decode cX5_settle 28 = .ok (.aload_n 1, 1) := by decide +kernel
theorem dX5_settle_29 : decode cX5_settle 29 = .ok (.iconst 4, 1) := by decide +kernel
theorem dX5_settle_30 : decode cX5_settle 30 = .ok (.putfield 70, 3) := by decide +kernel
theorem dX5_settle_33 : decode cX5_settle 33 = .ok (.return_, 1) := by decide +kernel
theorem dX5_tryOrders_0 : decode cX5_tryOrders 0 = .ok (.aload_n 1, 1) := by decide +kernel
theorem dX5_tryOrders_1 : decode cX5_tryOrders 1 = .ok (.getfield 94, 3) := by decide +kernel
theorem dX5_tryOrders_4 : decode cX5_tryOrders 4 = .ok (.astore_n 2, 1) := by decide +kernel
theorem dX5_tryOrders_5 : decode cX5_tryOrders 5 = .ok (.iconst 0, 1) := by decide +kernel
theorem dX5_tryOrders_6 : decode cX5_tryOrders 6 = .ok (.istore_n 3, 1) := by decide +kernel
theorem dX5_tryOrders_7 : decode cX5_tryOrders 7 = .ok (.iload_n 3, 1) := by decide +kernel
theorem dX5_tryOrders_8 : decode cX5_tryOrders 8 = .ok (.aload_n 2, 1) := by decide +kernel
theorem dX5_tryOrders_9 : decode cX5_tryOrders 9 = .ok (.getfield 119, 3) := by decide +kernel
theorem dX5_tryOrders_12 : decode cX5_tryOrders 12 = .ok (.if_icmp .ge 56, 3) := by decide +kernel
theorem dX5_tryOrders_15 : decode cX5_tryOrders 15 = .ok (.aload_n 1, 1) := by decide +kernel
theorem dX5_tryOrders_16 : decode cX5_tryOrders 16 = .ok (.getfield 70, 3) := by decide +kernel
theorem dX5_tryOrders_19 : decode cX5_tryOrders 19 = .ok (.ifCond .ne 49, 3) := by decide +kernel
theorem dX5_tryOrders_22 : decode cX5_tryOrders 22 = .ok (.aload_n 2, 1) := by decide +kernel
theorem dX5_tryOrders_23 : decode cX5_tryOrders 23 = .ok (.getfield 122, 3) := by decide +kernel
theorem dX5_tryOrders_26 : decode cX5_tryOrders 26 = .ok (.iload_n 3, 1) := by decide +kernel
theorem dX5_tryOrders_27 : decode cX5_tryOrders 27 = .ok (.iaload, 1) := by decide +kernel
theorem dX5_tryOrders_28 : decode cX5_tryOrders 28 = .ok (.istore 4, 2) := by decide +kernel
theorem dX5_tryOrders_30 : decode cX5_tryOrders 30 = .ok (.iload 4, 2) := by decide +kernel
theorem dX5_tryOrders_32 : decode cX5_tryOrders 32 = .ok (.sipush 200, 3) := by decide +kernel
theorem dX5_tryOrders_35 : decode cX5_tryOrders 35 = .ok (.if_icmp .lt 17, 3) := by decide +kernel
theorem dX5_tryOrders_38 : decode cX5_tryOrders 38 = .ok (.aload_n 0, 1) := by decide +kernel
theorem dX5_tryOrders_39 : decode cX5_tryOrders 39 = .ok (.aload_n 1, 1) := by decide +kernel
theorem dX5_tryOrders_40 : decode cX5_tryOrders 40 = .ok (.iload 4, 2) := by decide +kernel
theorem dX5_tryOrders_42 : decode cX5_tryOrders 42 = .ok (.sipush 200, 3) := by decide +kernel
theorem dX5_tryOrders_45 : decode cX5_tryOrders 45 = .ok (.isub, 1) := by decide +kernel
theorem dX5_tryOrders_46 : decode cX5_tryOrders 46 = .ok (.invokevirtual 126, 3) := by decide +kernel
theorem dX5_tryOrders_49 : decode cX5_tryOrders 49 = .ok (.goto 13, 3) := by decide +kernel
theorem dX5_tryOrders_52 : decode cX5_tryOrders 52 = .ok (.aload_n 0, 1) := by decide +kernel
theorem dX5_tryOrders_53 : decode cX5_tryOrders 53 = .ok (.aload_n 1, 1) := by decide +kernel
theorem dX5_tryOrders_54 : decode cX5_tryOrders 54 = .ok (.iload 4, 2) := by decide +kernel
theorem dX5_tryOrders_56 : decode cX5_tryOrders 56 = .ok (.bipush 100, 2) := by decide +kernel
theorem dX5_tryOrders_58 : decode cX5_tryOrders 58 = .ok (.isub, 1) := by decide +kernel
theorem dX5_tryOrders_59 : decode cX5_tryOrders 59 = .ok (.invokevirtual 130, 3) := by decide +kernel
theorem dX5_tryOrders_62 : decode cX5_tryOrders 62 = .ok (.iinc 3 1, 3) := by decide +kernel
theorem dX5_tryOrders_65 : decode cX5_tryOrders 65 = .ok (.goto (-58), 3) := by decide +kernel
theorem dX5_tryOrders_68 : decode cX5_tryOrders 68 = .ok (.return_, 1) := by decide +kernel
theorem dX5_tryLocker_0 : decode cX5_tryLocker 0 = .ok (.aload_n 0, 1) := by decide +kernel
theorem dX5_tryLocker_1 : decode cX5_tryLocker 1 = .ok (.getfield 26, 3) := by decide +kernel
theorem dX5_tryLocker_4 : decode cX5_tryLocker 4 = .ok (.iload_n 2, 1) := by decide +kernel
theorem dX5_tryLocker_5 : decode cX5_tryLocker 5 = .ok (.invokevirtual 133, 3) := by decide +kernel
theorem dX5_tryLocker_8 : decode cX5_tryLocker 8 = .ok (.checkcast 139, 3) := by decide +kernel
theorem dX5_tryLocker_11 : decode cX5_tryLocker 11 = .ok (.astore_n 3, 1) := by decide +kernel
theorem dX5_tryLocker_12 : decode cX5_tryLocker 12 = .ok (.aload_n 3, 1) := by decide +kernel
theorem dX5_tryLocker_13 : decode cX5_tryLocker 13 = .ok (.aload_n 1, 1) := by decide +kernel
theorem dX5_tryLocker_14 : decode cX5_tryLocker 14 = .ok (.getfield 141, 3) := by decide +kernel
theorem dX5_tryLocker_17 : decode cX5_tryLocker 17 = .ok (.invokevirtual 144, 3) := by decide +kernel
theorem dX5_tryLocker_20 : decode cX5_tryLocker 20 = .ok (.istore 4, 2) := by decide +kernel
theorem dX5_tryLocker_22 : decode cX5_tryLocker 22 = .ok (.aload_n 3, 1) := by decide +kernel
theorem dX5_tryLocker_23 : decode cX5_tryLocker 23 = .ok (.getfield 148, 3) := by decide +kernel
theorem dX5_tryLocker_26 : decode cX5_tryLocker 26 = .ok (.aload_n 1, 1) := by decide +kernel
theorem dX5_tryLocker_27 : decode cX5_tryLocker 27 = .ok (.getfield 94, 3) := by decide +kernel
theorem dX5_tryLocker_30 : decode cX5_tryLocker 30 = .ok (.getfield 98, 3) := by decide +kernel
theorem dX5_tryLocker_33 : decode cX5_tryLocker 33 = .ok (.invokevirtual 149, 3) := by decide +kernel
theorem dX5_tryLocker_36 : decode cX5_tryLocker 36 = .ok (.bipush 15, 2) := by decide +kernel
theorem dX5_tryLocker_38 : decode cX5_tryLocker 38 = .ok (.if_icmp .le 7, 3) := by decide +kernel
theorem dX5_tryLocker_41 : decode cX5_tryLocker 41 = .ok (.iconst 1, 1) := by decide +kernel
theorem dX5_tryLocker_42 : decode cX5_tryLocker 42 = .ok (.goto 4, 3) := by decide +kernel
theorem dX5_tryLocker_45 : decode cX5_tryLocker 45 = .ok (.iconst 0, 1) := by decide +kernel
theorem dX5_tryLocker_46 : decode cX5_tryLocker 46 = .ok (.istore 5, 2) := by decide +kernel
theorem dX5_tryLocker_48 : decode cX5_tryLocker 48 = .ok (.aload_n 1, 1) := by decide +kernel
theorem dX5_tryLocker_49 : decode cX5_tryLocker 49 = .ok (.getfield 75, 3) := by decide +kernel
theorem dX5_tryLocker_52 : decode cX5_tryLocker 52 = .ok (.iconst 1, 1) := by decide +kernel
theorem dX5_tryLocker_53 : decode cX5_tryLocker 53 = .ok (.if_icmp .eq 13, 3) := by decide +kernel
theorem dX5_tryLocker_56 : decode cX5_tryLocker 56 = .ok (.iload 5, 2) := by decide +kernel
theorem dX5_tryLocker_58 : decode cX5_tryLocker 58 = .ok (.ifCond .ne 8, 3) := by decide +kernel
theorem dX5_tryLocker_61 : decode cX5_tryLocker 61 = .ok (.iload 4, 2) := by decide +kernel
theorem dX5_tryLocker_63 : decode cX5_tryLocker 63 = .ok (.ifCond .ge 4, 3) := by decide +kernel
theorem dX5_tryLocker_66 : decode cX5_tryLocker 66 = .ok (.return_, 1) := by decide +kernel
theorem dX5_tryLocker_67 : decode cX5_tryLocker 67 = .ok (.aload_n 0, 1) := by decide +kernel
theorem dX5_tryLocker_68 : decode cX5_tryLocker 68 = .ok (.getfield 34, 3) := by decide +kernel
theorem dX5_tryLocker_71 : decode cX5_tryLocker 71 = .ok (.aload_n 3, 1) := by decide +kernel
theorem dX5_tryLocker_72 : decode cX5_tryLocker 72 = .ok (.getfield 148, 3) := by decide +kernel
theorem dX5_tryLocker_75 : decode cX5_tryLocker 75 = .ok (.invokevirtual 155, 3) := by decide +kernel
theorem dX5_tryLocker_78 : decode cX5_tryLocker 78 = .ok (.aload_n 0, 1) := by decide +kernel
theorem dX5_tryLocker_79 : decode cX5_tryLocker 79 = .ok (.getfield 34, 3) := by decide +kernel
theorem dX5_tryLocker_82 : decode cX5_tryLocker 82 = .ok (.iconst 2, 1) := by decide +kernel
theorem dX5_tryLocker_83 : decode cX5_tryLocker 83 = .ok (.invokevirtual 116, 3) := by decide +kernel
theorem dX5_tryLocker_86 : decode cX5_tryLocker 86 = .ok (.aload_n 3, 1) := by decide +kernel
theorem dX5_tryLocker_87 : decode cX5_tryLocker 87 = .ok (.getfield 158, 3) := by decide +kernel
theorem dX5_tryLocker_90 : decode cX5_tryLocker 90 = .ok (.iload 4, 2) := by decide +kernel
theorem dX5_tryLocker_92 : decode cX5_tryLocker 92 = .ok (.dup2, 1) := by decide +kernel
theorem dX5_tryLocker_93 : decode cX5_tryLocker 93 = .ok (.iaload, 1) := by decide +kernel
theorem dX5_tryLocker_94 : decode cX5_tryLocker 94 = .ok (.iconst 1, 1) := by decide +kernel
theorem dX5_tryLocker_95 : decode cX5_tryLocker 95 = .ok (.isub, 1) := by decide +kernel
theorem dX5_tryLocker_96 : decode cX5_tryLocker 96 = .ok (.iastore, 1) := by decide +kernel
theorem dX5_tryLocker_97 : decode cX5_tryLocker 97 = .ok (.aload_n 1, 1) := by decide +kernel
theorem dX5_tryLocker_98 : decode cX5_tryLocker 98 = .ok (.iconst 2, 1) := by decide +kernel
theorem dX5_tryLocker_99 : decode cX5_tryLocker 99 = .ok (.putfield 70, 3) := by decide +kernel
theorem dX5_tryLocker_102 : decode cX5_tryLocker 102 = .ok (.aload_n 1, 1) := by decide +kernel
theorem dX5_tryLocker_103 : decode cX5_tryLocker 103 = .ok (.iload_n 2, 1) := by decide +kernel
theorem dX5_tryLocker_104 : decode cX5_tryLocker 104 = .ok (.putfield 161, 3) := by decide +kernel
theorem dX5_tryLocker_107 : decode cX5_tryLocker 107 = .ok (.aload_n 1, 1) := by decide +kernel
theorem dX5_tryLocker_108 : decode cX5_tryLocker 108 = .ok (.iload 4, 2) := by decide +kernel
theorem dX5_tryLocker_110 : decode cX5_tryLocker 110 = .ok (.putfield 164, 3) := by decide +kernel
theorem dX5_tryLocker_113 : decode cX5_tryLocker 113 = .ok (.return_, 1) := by decide +kernel
theorem dX5_tryNeighbour_0 : decode cX5_tryNeighbour 0 = .ok (.aload_n 0, 1) := by decide +kernel
theorem dX5_tryNeighbour_1 : decode cX5_tryNeighbour 1 = .ok (.getfield 22, 3) := by decide +kernel
theorem dX5_tryNeighbour_4 : decode cX5_tryNeighbour 4 = .ok (.iload_n 2, 1) := by decide +kernel
theorem dX5_tryNeighbour_5 : decode cX5_tryNeighbour 5 = .ok (.invokevirtual 133, 3) := by decide +kernel
theorem dX5_tryNeighbour_8 : decode cX5_tryNeighbour 8 = .ok (.checkcast 99, 3) := by decide +kernel
theorem dX5_tryNeighbour_11 : decode cX5_tryNeighbour 11 = .ok (.astore_n 3, 1) := by decide +kernel
theorem dX5_tryNeighbour_12 : decode cX5_tryNeighbour 12 = .ok (.aload_n 3, 1) := by decide +kernel
theorem dX5_tryNeighbour_13 : decode cX5_tryNeighbour 13 = .ok (.getfield 98, 3) := by decide +kernel
theorem dX5_tryNeighbour_16 : decode cX5_tryNeighbour 16 = .ok (.aload_n 1, 1) := by decide +kernel
theorem dX5_tryNeighbour_17 : decode cX5_tryNeighbour 17 = .ok (.getfield 94, 3) := by decide +kernel
theorem dX5_tryNeighbour_20 : decode cX5_tryNeighbour 20 = .ok (.getfield 98, 3) := by decide +kernel
theorem dX5_tryNeighbour_23 : decode cX5_tryNeighbour 23 = .ok (.invokevirtual 149, 3) := by decide +kernel
theorem dX5_tryNeighbour_26 : decode cX5_tryNeighbour 26 = .ok (.bipush 8, 2) := by decide +kernel
theorem dX5_tryNeighbour_28 : decode cX5_tryNeighbour 28 = .ok (.if_icmp .le 4, 3) := by decide +kernel
theorem dX5_tryNeighbour_31 : decode cX5_tryNeighbour 31 = .ok (.return_, 1) := by decide +kernel
theorem dX5_tryNeighbour_32 : decode cX5_tryNeighbour 32 = .ok (.aload_n 0, 1) := by decide +kernel
theorem dX5_tryNeighbour_33 : decode cX5_tryNeighbour 33 = .ok (.getfield 34, 3) := by decide +kernel
theorem dX5_tryNeighbour_36 : decode cX5_tryNeighbour 36 = .ok (.aload_n 3, 1) := by decide +kernel
theorem dX5_tryNeighbour_37 : decode cX5_tryNeighbour 37 = .ok (.getfield 98, 3) := by decide +kernel
theorem dX5_tryNeighbour_40 : decode cX5_tryNeighbour 40 = .ok (.invokevirtual 155, 3) := by decide +kernel
theorem dX5_tryNeighbour_43 : decode cX5_tryNeighbour 43 = .ok (.aload_n 3, 1) := by decide +kernel
theorem dX5_tryNeighbour_44 : decode cX5_tryNeighbour 44 = .ok (.aload_n 0, 1) := by decide +kernel
theorem dX5_tryNeighbour_45 : decode cX5_tryNeighbour 45 = .ok (.getfield 34, 3) := by decide +kernel
theorem dX5_tryNeighbour_48 : decode cX5_tryNeighbour 48 = .ok (.getfield 56, 3) := by decide +kernel
theorem dX5_tryNeighbour_51 : decode cX5_tryNeighbour 51 = .ok (.invokevirtual 109, 3) := by decide +kernel
theorem dX5_tryNeighbour_54 : decode cX5_tryNeighbour 54 = .ok (.ifCond .eq 21, 3) := by decide +kernel
theorem dX5_tryNeighbour_57 : decode cX5_tryNeighbour 57 = .ok (.aload_n 0, 1) := by decide +kernel
theorem dX5_tryNeighbour_58 : decode cX5_tryNeighbour 58 = .ok (.getfield 34, 3) := by decide +kernel
theorem dX5_tryNeighbour_61 : decode cX5_tryNeighbour 61 = .ok (.iconst 2, 1) := by decide +kernel
theorem dX5_tryNeighbour_62 : decode cX5_tryNeighbour 62 = .ok (.invokevirtual 116, 3) := by decide +kernel
theorem dX5_tryNeighbour_65 : decode cX5_tryNeighbour 65 = .ok (.aload_n 1, 1) := by decide +kernel
theorem dX5_tryNeighbour_66 : decode cX5_tryNeighbour 66 = .ok (.iconst 3, 1) := by decide +kernel
theorem dX5_tryNeighbour_67 : decode cX5_tryNeighbour 67 = .ok (.putfield 70, 3) := by decide +kernel
theorem dX5_tryNeighbour_70 : decode cX5_tryNeighbour 70 = .ok (.aload_n 1, 1) := by decide +kernel
theorem dX5_tryNeighbour_71 : decode cX5_tryNeighbour 71 = .ok (.iload_n 2, 1) := by decide +kernel
theorem dX5_tryNeighbour_72 : decode cX5_tryNeighbour 72 = .ok (.putfield 161, 3) := by decide +kernel
theorem dX5_tryNeighbour_75 : decode cX5_tryNeighbour 75 = .ok (.return_, 1) := by decide +kernel
theorem dX5_endDay_0 : decode cX5_endDay 0 = .ok (.aload_n 1, 1) := by decide +kernel
theorem dX5_endDay_1 : decode cX5_endDay 1 = .ok (.getfield 70, 3) := by decide +kernel
theorem dX5_endDay_4 : decode cX5_endDay 4 = .ok (.iconst 2, 1) := by decide +kernel
theorem dX5_endDay_5 : decode cX5_endDay 5 = .ok (.if_icmp .eq 4, 3) := by decide +kernel
theorem dX5_endDay_8 : decode cX5_endDay 8 = .ok (.return_, 1) := by decide +kernel
theorem dX5_endDay_9 : decode cX5_endDay 9 = .ok (.aload_n 0, 1) := by decide +kernel
theorem dX5_endDay_10 : decode cX5_endDay 10 = .ok (.getfield 26, 3) := by decide +kernel
theorem dX5_endDay_13 : decode cX5_endDay 13 = .ok (.aload_n 1, 1) := by decide +kernel
theorem dX5_endDay_14 : decode cX5_endDay 14 = .ok (.getfield 161, 3) := by decide +kernel
theorem dX5_endDay_17 : decode cX5_endDay 17 = .ok (.invokevirtual 133, 3) := by decide +kernel
theorem dX5_endDay_20 : decode cX5_endDay 20 = .ok (.checkcast 139, 3) := by decide +kernel
theorem dX5_endDay_23 : decode cX5_endDay 23 = .ok (.astore_n 2, 1) := by decide +kernel
theorem dX5_endDay_24 : decode cX5_endDay 24 = .ok (.aload_n 1, 1) := by decide +kernel
theorem dX5_endDay_25 : decode cX5_endDay 25 = .ok (.dup, 1) := by decide +kernel
theorem dX5_endDay_26 : decode cX5_endDay 26 = .ok (.getfield 167, 3) := by decide +kernel
theorem dX5_endDay_29 : decode cX5_endDay 29 = .ok (.iconst 1, 1) := by decide +kernel
theorem dX5_endDay_30 : decode cX5_endDay 30 = .ok (.iadd, 1) := by decide +kernel
theorem dX5_endDay_31 : decode cX5_endDay 31 = .ok (.putfield 167, 3) := by decide +kernel
theorem dX5_endDay_34 : decode cX5_endDay 34 = .ok (.aload_n 2, 1) := by decide +kernel
theorem dX5_endDay_35 : decode cX5_endDay 35 = .ok (.getfield 148, 3) := by decide +kernel
theorem dX5_endDay_38 : decode cX5_endDay 38 = .ok (.aload_n 1, 1) := by decide +kernel
theorem dX5_endDay_39 : decode cX5_endDay 39 = .ok (.getfield 94, 3) := by decide +kernel
theorem dX5_endDay_42 : decode cX5_endDay 42 = .ok (.getfield 98, 3) := by decide +kernel
theorem dX5_endDay_45 : decode cX5_endDay 45 = .ok (.invokevirtual 149, 3) := by decide +kernel
theorem dX5_endDay_48 : decode cX5_endDay 48 = .ok (.bipush 10, 2) := by decide +kernel
theorem dX5_endDay_50 : decode cX5_endDay 50 = .ok (.if_icmp .gt 12, 3) := by decide +kernel
theorem dX5_endDay_53 : decode cX5_endDay 53 = .ok (.aload_n 1, 1) := by decide +kernel
theorem dX5_endDay_54 : decode cX5_endDay 54 = .ok (.aload_n 2, 1) := by decide +kernel
theorem dX5_endDay_55 : decode cX5_endDay 55 = .ok (.iconst 1, 1) := by decide +kernel
theorem dX5_endDay_56 : decode cX5_endDay 56 = .ok (.invokestatic 170, 3) := by decide +kernel
theorem dX5_endDay_59 : decode cX5_endDay 59 = .ok (.goto 17, 3) := by decide +kernel
theorem dX5_endDay_62 : decode cX5_endDay 62 = .ok (.aload_n 1, 1) := by decide +kernel
theorem dX5_endDay_63 : decode cX5_endDay 63 = .ok (.getfield 167, 3) := by decide +kernel
theorem dX5_endDay_66 : decode cX5_endDay 66 = .ok (.iconst 3, 1) := by decide +kernel
theorem dX5_endDay_67 : decode cX5_endDay 67 = .ok (.if_icmp .lt 9, 3) := by decide +kernel
theorem dX5_endDay_70 : decode cX5_endDay 70 = .ok (.aload_n 1, 1) := by decide +kernel
theorem dX5_endDay_71 : decode cX5_endDay 71 = .ok (.aload_n 2, 1) := by decide +kernel
theorem dX5_endDay_72 : decode cX5_endDay 72 = .ok (.iconst 4, 1) := by decide +kernel
theorem dX5_endDay_73 : decode cX5_endDay 73 = .ok (.invokestatic 170, 3) := by decide +kernel
theorem dX5_endDay_76 : decode cX5_endDay 76 = .ok (.return_, 1) := by decide +kernel
theorem dX5_emptyBox_0 : decode cX5_emptyBox 0 = .ok (.aload_n 1, 1) := by decide +kernel
theorem dX5_emptyBox_1 : decode cX5_emptyBox 1 = .ok (.getfield 158, 3) := by decide +kernel
theorem dX5_emptyBox_4 : decode cX5_emptyBox 4 = .ok (.aload_n 0, 1) := by decide +kernel
theorem dX5_emptyBox_5 : decode cX5_emptyBox 5 = .ok (.getfield 164, 3) := by decide +kernel
theorem dX5_emptyBox_8 : decode cX5_emptyBox 8 = .ok (.dup2, 1) := by decide +kernel
theorem dX5_emptyBox_9 : decode cX5_emptyBox 9 = .ok (.iaload, 1) := by decide +kernel
theorem dX5_emptyBox_10 : decode cX5_emptyBox 10 = .ok (.iconst 1, 1) := by decide +kernel
theorem dX5_emptyBox_11 : decode cX5_emptyBox 11 = .ok (.iadd, 1) := by decide +kernel
theorem dX5_emptyBox_12 : decode cX5_emptyBox 12 = .ok (.iastore, 1) := by decide +kernel
theorem dX5_emptyBox_13 : decode cX5_emptyBox 13 = .ok (.aload_n 0, 1) := by decide +kernel
theorem dX5_emptyBox_14 : decode cX5_emptyBox 14 = .ok (.iload_n 2, 1) := by decide +kernel
theorem dX5_emptyBox_15 : decode cX5_emptyBox 15 = .ok (.putfield 70, 3) := by decide +kernel
theorem dX5_emptyBox_18 : decode cX5_emptyBox 18 = .ok (.aload_n 0, 1) := by decide +kernel
theorem dX5_emptyBox_19 : decode cX5_emptyBox 19 = .ok (.iconst (-1), 1) := by decide +kernel
theorem dX5_emptyBox_20 : decode cX5_emptyBox 20 = .ok (.putfield 161, 3) := by decide +kernel
theorem dX5_emptyBox_23 : decode cX5_emptyBox 23 = .ok (.return_, 1) := by decide +kernel
theorem dX7_init_0 : decode cX7_init 0 = .ok (.aload_n 0, 1) := by decide +kernel
theorem dX7_init_1 : decode cX7_init 1 = .ok (.invokespecial 3, 3) := by decide +kernel
theorem dX7_init_4 : decode cX7_init 4 = .ok (.aload_n 0, 1) := by decide +kernel
theorem dX7_init_5 : decode cX7_init 5 = .ok (.bipush 12, 2) := by decide +kernel
theorem dX7_init_7 : decode cX7_init 7 = .ok (.newarray .int, 2) := by decide +kernel
theorem dX7_init_9 : decode cX7_init 9 = .ok (.putfield 9, 3) := by decide +kernel
theorem dX7_init_12 : decode cX7_init 12 = .ok (.aload_n 0, 1) := by decide +kernel
theorem dX7_init_13 : decode cX7_init 13 = .ok (.bipush 12, 2) := by decide +kernel
theorem dX7_init_15 : decode cX7_init 15 = .ok (.newarray .int, 2) := by decide +kernel
theorem dX7_init_17 : decode cX7_init 17 = .ok (.putfield 15, 3) := by decide +kernel
theorem dX7_init_20 : decode cX7_init 20 = .ok (.aload_n 0, 1) := by decide +kernel
theorem dX7_init_21 : decode cX7_init 21 = .ok (.bipush 12, 2) := by decide +kernel
theorem dX7_init_23 : decode cX7_init 23 = .ok (.newarray .int, 2) := by decide +kernel
theorem dX7_init_25 : decode cX7_init 25 = .ok (.putfield 18, 3) := by decide +kernel
theorem dX7_init_28 : decode cX7_init 28 = .ok (.aload_n 0, 1) := by decide +kernel
theorem dX7_init_29 : decode cX7_init 29 = .ok (.iconst 0, 1) := by decide +kernel
theorem dX7_init_30 : decode cX7_init 30 = .ok (.putfield 21, 3) := by decide +kernel
theorem dX7_init_33 : decode cX7_init 33 = .ok (.aload_n 0, 1) := by decide +kernel
theorem dX7_init_34 : decode cX7_init 34 = .ok (.aload_n 1, 1) := by decide +kernel
theorem dX7_init_35 : decode cX7_init 35 = .ok (.putfield 25, 3) := by decide +kernel
theorem dX7_init_38 : decode cX7_init 38 = .ok (.aload_n 0, 1) := by decide +kernel
theorem dX7_init_39 : decode cX7_init 39 = .ok (.new 29, 3) := by decide +kernel
theorem dX7_init_42 : decode cX7_init 42 = .ok (.dup, 1) := by decide +kernel
theorem dX7_init_43 : decode cX7_init 43 = .ok (.aload_n 1, 1) := by decide +kernel
theorem dX7_init_44 : decode cX7_init 44 = .ok (.invokespecial 31, 3) := by decide +kernel
theorem dX7_init_47 : decode cX7_init 47 = .ok (.putfield 34, 3) := by decide +kernel
theorem dX7_init_50 : decode cX7_init 50 = .ok (.return_, 1) := by decide +kernel
theorem dX7_follow_0 : decode cX7_follow 0 = .ok (.aload_n 2, 1) := by decide +kernel
theorem dX7_follow_1 : decode cX7_follow 1 = .ok (.invokevirtual 38, 3) := by decide +kernel
theorem dX7_follow_4 : decode cX7_follow 4 = .ok (.istore_n 3, 1) := by decide +kernel
theorem dX7_follow_5 : decode cX7_follow 5 = .ok (.aload_n 0, 1) := by decide +kernel
theorem dX7_follow_6 : decode cX7_follow 6 = .ok (.iconst 0, 1) := by decide +kernel
theorem dX7_follow_7 : decode cX7_follow 7 = .ok (.putfield 21, 3) := by decide +kernel
theorem dX7_follow_10 : decode cX7_follow 10 = .ok (.aload_n 0, 1) := by decide +kernel
theorem dX7_follow_11 : decode cX7_follow 11 = .ok (.getfield 34, 3) := by decide +kernel
theorem dX7_follow_14 : decode cX7_follow 14 = .ok (.aload_n 1, 1) := by decide +kernel
theorem dX7_follow_15 : decode cX7_follow 15 = .ok (.getfield 44, 3) := by decide +kernel
theorem dX7_follow_18 : decode cX7_follow 18 = .ok (.invokevirtual 49, 3) := by decide +kernel
theorem dX7_follow_21 : decode cX7_follow 21 = .ok (.iconst 0, 1) := by decide +kernel
theorem dX7_follow_22 : decode cX7_follow 22 = .ok (.istore 4, 2) := by decide +kernel
theorem dX7_follow_24 : decode cX7_follow 24 = .ok (.iload 4, 2) := by decide +kernel
theorem dX7_follow_26 : decode cX7_follow 26 = .ok (.aload_n 2, 1) := by decide +kernel
theorem dX7_follow_27 : decode cX7_follow 27 = .ok (.getfield 53, 3) := by decide +kernel
theorem dX7_follow_30 : decode cX7_follow 30 = .ok (.if_icmp .ge 162, 3) := by decide +kernel
theorem dX7_follow_33 : decode cX7_follow 33 = .ok (.iload 4, 2) := by decide +kernel
theorem dX7_follow_35 : decode cX7_follow 35 = .ok (.bipush 12, 2) := by decide +kernel
theorem dX7_follow_37 : decode cX7_follow 37 = .ok (.if_icmp .ge 155, 3) := by decide +kernel
theorem dX7_follow_40 : decode cX7_follow 40 = .ok (.aload_n 2, 1) := by decide +kernel
theorem dX7_follow_41 : decode cX7_follow 41 = .ok (.iload 4, 2) := by decide +kernel
theorem dX7_follow_43 : decode cX7_follow 43 = .ok (.invokevirtual 56, 3) := by decide +kernel
theorem dX7_follow_46 : decode cX7_follow 46 = .ok (.astore 5, 2) := by decide +kernel
theorem dX7_follow_48 : decode cX7_follow 48 = .ok (.aload_n 0, 1) := by decide +kernel
theorem dX7_follow_49 : decode cX7_follow 49 = .ok (.getfield 34, 3) := by decide +kernel
theorem dX7_follow_52 : decode cX7_follow 52 = .ok (.aload 5, 2) := by decide +kernel
theorem dX7_follow_54 : decode cX7_follow 54 = .ok (.getfield 60, 3) := by decide +kernel
theorem dX7_follow_57 : decode cX7_follow 57 = .ok (.getfield 66, 3) := by decide +kernel
theorem dX7_follow_60 : decode cX7_follow 60 = .ok (.invokevirtual 72, 3) := by decide +kernel
theorem dX7_follow_63 : decode cX7_follow 63 = .ok (.aload_n 0, 1) := by decide +kernel
theorem dX7_follow_64 : decode cX7_follow 64 = .ok (.getfield 34, 3) := by decide +kernel
theorem dX7_follow_67 : decode cX7_follow 67 = .ok (.aload 5, 2) := by decide +kernel
theorem dX7_follow_69 : decode cX7_follow 69 = .ok (.getfield 76, 3) := by decide +kernel
theorem dX7_follow_72 : decode cX7_follow 72 = .ok (.invokevirtual 79, 3) := by decide +kernel
theorem dX7_follow_75 : decode cX7_follow 75 = .ok (.iload_n 3, 1) := by decide +kernel
theorem dX7_follow_76 : decode cX7_follow 76 = .ok (.aload 5, 2) := by decide +kernel
theorem dX7_follow_78 : decode cX7_follow 78 = .ok (.getfield 82, 3) := by decide +kernel
theorem dX7_follow_81 : decode cX7_follow 81 = .ok (.iconst 2, 1) := by decide +kernel
theorem dX7_follow_82 : decode cX7_follow 82 = .ok (.if_icmp .ne 11, 3) := by decide +kernel
theorem dX7_follow_85 : decode cX7_follow 85 = .ok (.aload 5, 2) := by decide +kernel
theorem dX7_follow_87 : decode cX7_follow 87 = .ok (.getfield 85, 3) := by decide +kernel
theorem dX7_follow_90 : decode cX7_follow 90 = .ok (.goto 9, 3) := by decide +kernel
theorem dX7_follow_93 : decode cX7_follow 93 = .ok (.aload 5, 2) := by decide +kernel
theorem dX7_follow_95 : decode cX7_follow 95 = .ok (.getfield 85, 3) := by decide +kernel
theorem dX7_follow_98 : decode cX7_follow 98 = .ok (.ineg, 1) := by decide +kernel
theorem dX7_follow_99 : decode cX7_follow 99 = .ok (.iadd, 1) := by decide +kernel
theorem dX7_follow_100 : decode cX7_follow 100 = .ok (.istore_n 3, 1) := by decide +kernel
theorem dX7_follow_101 : decode cX7_follow 101 = .ok (.aload_n 0, 1) := by decide +kernel
theorem dX7_follow_102 : decode cX7_follow 102 = .ok (.getfield 9, 3) := by decide +kernel
theorem dX7_follow_105 : decode cX7_follow 105 = .ok (.iload 4, 2) := by decide +kernel
theorem dX7_follow_107 : decode cX7_follow 107 = .ok (.aload_n 0, 1) := by decide +kernel
theorem dX7_follow_108 : decode cX7_follow 108 = .ok (.getfield 34, 3) := by decide +kernel
theorem dX7_follow_111 : decode cX7_follow 111 = .ok (.getfield 88, 3) := by decide +kernel
theorem dX7_follow_114 : decode cX7_follow 114 = .ok (.iastore, 1) := by decide +kernel
theorem dX7_follow_115 : decode cX7_follow 115 = .ok (.aload_n 0, 1) := by decide +kernel
theorem dX7_follow_116 : decode cX7_follow 116 = .ok (.getfield 15, 3) := by decide +kernel
theorem dX7_follow_119 : decode cX7_follow 119 = .ok (.iload 4, 2) := by decide +kernel
theorem dX7_follow_121 : decode cX7_follow 121 = .ok (.aload_n 0, 1) := by decide +kernel
theorem dX7_follow_122 : decode cX7_follow 122 = .ok (.getfield 34, 3) := by decide +kernel
theorem dX7_follow_125 : decode cX7_follow 125 = .ok (.getfield 88, 3) := by decide +kernel
theorem dX7_follow_128 : decode cX7_follow 128 = .ok (.aload 5, 2) := by decide +kernel
theorem dX7_follow_130 : decode cX7_follow 130 = .ok (.getfield 91, 3) := by decide +kernel
theorem dX7_follow_133 : decode cX7_follow 133 = .ok (.if_icmp .le 19, 3) := by decide +kernel
theorem dX7_follow_136 : decode cX7_follow 136 = .ok (.aload_n 0, 1) := by decide +kernel
theorem dX7_follow_137 : decode cX7_follow 137 = .ok (.getfield 34, 3) := by decide +kernel
theorem dX7_follow_140 : decode cX7_follow 140 = .ok (.getfield 88, 3) := by decide +kernel
theorem dX7_follow_143 : decode cX7_follow 143 = .ok (.aload 5, 2) := by decide +kernel
theorem dX7_follow_145 : decode cX7_follow 145 = .ok (.getfield 91, 3) := by decide +kernel
theorem dX7_follow_148 : decode cX7_follow 148 = .ok (.isub, 1) := by decide +kernel
theorem dX7_follow_149 : decode cX7_follow 149 = .ok (.goto 4, 3) := by decide +kernel
theorem dX7_follow_152 : decode cX7_follow 152 = .ok (.iconst 0, 1) := by decide +kernel
theorem dX7_follow_153 : decode cX7_follow 153 = .ok (.iastore, 1) := by decide +kernel
theorem dX7_follow_154 : decode cX7_follow 154 = .ok (.aload_n 0, 1) := by decide +kernel
theorem dX7_follow_155 : decode cX7_follow 155 = .ok (.getfield 18, 3) := by decide +kernel
theorem dX7_follow_158 : decode cX7_follow 158 = .ok (.iload 4, 2) := by decide +kernel
theorem dX7_follow_160 : decode cX7_follow 160 = .ok (.iload_n 3, 1) := by decide +kernel
theorem dX7_follow_161 : decode cX7_follow 161 = .ok (.iastore, 1) := by decide +kernel
theorem dX7_follow_162 : decode cX7_follow 162 = .ok (.aload_n 0, 1) := by decide +kernel
theorem dX7_follow_163 : decode cX7_follow 163 = .ok (.dup, 1) := by decide +kernel
theorem dX7_follow_164 : decode cX7_follow 164 = .ok (.getfield 21, 3) := by decide +kernel
theorem dX7_follow_167 : decode cX7_follow 167 = .ok (.aload_n 0, 1) := by decide +kernel
theorem dX7_follow_168 : decode cX7_follow 168 = .ok (.getfield 15, 3) := by decide +kernel
theorem dX7_follow_171 : decode cX7_follow 171 = .ok (.iload 4, 2) := by decide +kernel
theorem dX7_follow_173 : decode cX7_follow 173 = .ok (.iaload, 1) := by decide +kernel
theorem dX7_follow_174 : decode cX7_follow 174 = .ok (.iadd, 1) := by decide +kernel
theorem dX7_follow_175 : decode cX7_follow 175 = .ok (.putfield 21, 3) := by decide +kernel
theorem dX7_follow_178 : decode cX7_follow 178 = .ok (.aload_n 0, 1) := by decide +kernel
theorem dX7_follow_179 : decode cX7_follow 179 = .ok (.getfield 34, 3) := by decide +kernel
theorem dX7_follow_182 : decode cX7_follow 182 = .ok (.iconst 4, 1) := by decide +kernel
theorem dX7_follow_183 : decode cX7_follow 183 = .ok (.invokevirtual 94, 3) := by decide +kernel
theorem dX7_follow_186 : decode cX7_follow 186 = .ok (.iinc 4 1, 3) := by decide +kernel
theorem dX7_follow_189 : decode cX7_follow 189 = .ok (.goto (-165), 3) := by decide +kernel
theorem dX7_follow_192 : decode cX7_follow 192 = .ok (.aload_n 0, 1) := by decide +kernel
theorem dX7_follow_193 : decode cX7_follow 193 = .ok (.getfield 34, 3) := by decide +kernel
theorem dX7_follow_196 : decode cX7_follow 196 = .ok (.aload_n 0, 1) := by decide +kernel
theorem dX7_follow_197 : decode cX7_follow 197 = .ok (.getfield 25, 3) := by decide +kernel
theorem dX7_follow_200 : decode cX7_follow 200 = .ok (.getfield 97, 3) := by decide +kernel
theorem dX7_follow_203 : decode cX7_follow 203 = .ok (.invokevirtual 72, 3) := by decide +kernel
theorem dX7_follow_206 : decode cX7_follow 206 = .ok (.aload_n 0, 1) := by decide +kernel
theorem dX7_follow_207 : decode cX7_follow 207 = .ok (.getfield 34, 3) := by decide +kernel
theorem dX7_follow_210 : decode cX7_follow 210 = .ok (.getfield 88, 3) := by decide +kernel
theorem dX7_follow_213 : decode cX7_follow 213 = .ok (.aload_n 1, 1) := by decide +kernel
theorem dX7_follow_214 : decode cX7_follow 214 = .ok (.getfield 102, 3) := by decide +kernel
theorem dX7_follow_217 : decode cX7_follow 217 = .ok (.if_icmp .le 18, 3) := by decide +kernel
theorem dX7_follow_220 : decode cX7_follow 220 = .ok (.aload_n 0, 1) := by decide +kernel
theorem dX7_follow_221 : decode cX7_follow 221 = .ok (.getfield 34, 3) := by decide +kernel
theorem dX7_follow_224 : decode cX7_follow 224 = .ok (.getfield 88, 3) := by decide +kernel
theorem dX7_follow_227 : decode cX7_follow 227 = .ok (.aload_n 1, 1) := by decide +kernel
theorem dX7_follow_228 : decode cX7_follow 228 = .ok (.getfield 102, 3) := by decide +kernel
theorem dX7_follow_231 : decode cX7_follow 231 = .ok (.isub, 1) := by decide +kernel
theorem dX7_follow_232 : decode cX7_follow 232 = .ok (.goto 4, 3) := by decide +kernel
theorem dX7_follow_235 : decode cX7_follow 235 = .ok (.iconst 0, 1) := by decide +kernel
theorem dX7_follow_236 : decode cX7_follow 236 = .ok (.istore 4, 2) := by decide +kernel
theorem dX7_follow_238 : decode cX7_follow 238 = .ok (.aload_n 0, 1) := by decide +kernel
theorem dX7_follow_239 : decode cX7_follow 239 = .ok (.getfield 34, 3) := by decide +kernel
theorem dX7_follow_242 : decode cX7_follow 242 = .ok (.getfield 105, 3) := by decide +kernel
theorem dX7_follow_245 : decode cX7_follow 245 = .ok (.iconst 3, 1) := by decide +kernel
theorem dX7_follow_246 : decode cX7_follow 246 = .ok (.aload_n 0, 1) := by decide +kernel
theorem dX7_follow_247 : decode cX7_follow 247 = .ok (.getfield 21, 3) := by decide +kernel
theorem dX7_follow_250 : decode cX7_follow 250 = .ok (.imul, 1) := by decide +kernel
theorem dX7_follow_251 : decode cX7_follow 251 = .ok (.iadd, 1) := by decide +kernel
theorem dX7_follow_252 : decode cX7_follow 252 = .ok (.iconst 2, 1) := by decide +kernel
theorem dX7_follow_253 : decode cX7_follow 253 = .ok (.iload 4, 2) := by decide +kernel
theorem dX7_follow_255 : decode cX7_follow 255 = .ok (.imul, 1) := by decide +kernel
theorem dX7_follow_256 : decode cX7_follow 256 = .ok (.iadd, 1) := by decide +kernel
theorem dX7_follow_257 : decode cX7_follow 257 = .ok (.ireturn, 1) := by decide +kernel
section BL
variable {p : Program} {l : Launch} {e : Env} {s : State} {m : MethodId} {args : Array Value} {below : List Frame} {meth : Method} {c : Code} {w : Wd} {S : St}
theorem bX5_init_0 (B : Bd p s m args meth c cX5_init 4 (wsOf yX5_init cX5_init 4 none) RX5 w none "<init>") {v0 : Nat} {v1 : Nat} {v2 : Nat} {v3 : Nat} {k n : Nat} {Q : State → Prop} (h1 : kd S v0 = 7) (h2 : k + 1 ≤ rX5_init.cells) (h3 : n + 6 ≤ rX5_init.slots) (kk : ∀ q30 : Nat, kd (sP (sP (sP (sI (sI S 388 v0 0) 389 v0 0) 384 v0 (some v1)) 385 v0 (some v2)) 386 v0 (some v3)) q30 = 0 → K p l e rX5_init s m args below meth c 4 w (k + 1) (n + 6) Q (nw (sP (sP (sP (sI (sI S 388 v0 0) 389 v0 0) 384 v0 (some v1)) 385 v0 (some v2)) 386 v0 (some v3)) q30 11 0) 33 [(1, .ref v1)] [.ref q30, .ref v0]) : K p l e rX5_init s m args below meth c 4 w k n Q S 0 [(0, .ref v0), (1, .ref v1), (2, .ref v2), (3, .ref v3)] [] := by
  refine k_aload_n B 0 rfl rfl dX5_init_0 ?_
  refine k_objInit B (in_of qlRX5_3) (in_of qi_obj) (in_of qc_obj) (Nat.le_of_ble_eq_true rfl) (Nat.le_of_ble_eq_true rfl) dX5_init_1 ?_
  refine k_aload_n B 0 rfl rfl dX5_init_4 ?_
  refine k_iconst (v := 0) B (by decide) dX5_init_5 ?_
  refine k_putI (f := 388) B 6 4 rfl (by decide) rfl (by decide) rfl rfl (fun w h => in_of (uw_6 w h)) (in_of qfRX5_9) tyX5 tyX5_ok nmX5 rfl (tyX5_ok 4 (by decide)) dX5_init_6 h1 ?_
  refine k_aload_n B 0 rfl rfl dX5_init_9 ?_
  refine k_iconst (v := 0) B (by decide) dX5_init_10 ?_
  refine k_putI (f := 389) B 6 5 rfl (by decide) rfl (by decide) rfl rfl (fun w h => in_of (uw_6 w h)) (in_of qfRX5_15) tyX5 tyX5_ok nmX5 rfl (tyX5_ok 5 (by decide)) dX5_init_11 h1 ?_
  refine k_aload_n B 0 rfl rfl dX5_init_14 ?_
  refine k_aload_n B 1 rfl rfl dX5_init_15 ?_
  refine k_putPF (f := 384) (v := some v1) B 6 0 rfl (by decide) rfl (by decide) rfl rfl (fun w h => in_of (uw_6 w h)) (in_of qfRX5_18) tyX5 tyX5_ok nmX5 rfl rfl rfl (tyX5_ok 0 (by decide)) rfl rfl dX5_init_16 h1 ?_
  refine k_aload_n B 0 rfl rfl dX5_init_19 ?_
  refine k_aload_n B 2 rfl rfl dX5_init_20 ?_
  refine k_putPF (f := 385) (v := some v2) B 6 1 rfl (by decide) rfl (by decide) rfl rfl (fun w h => in_of (uw_6 w h)) (in_of qfRX5_22) tyX5 tyX5_ok nmX5 rfl rfl rfl (tyX5_ok 1 (by decide)) rfl rfl dX5_init_21 h1 ?_
  refine k_aload_n B 0 rfl rfl dX5_init_24 ?_
  refine k_aload_n B 3 rfl rfl dX5_init_25 ?_
  refine k_putPF (f := 386) (v := some v3) B 6 2 rfl (by decide) rfl (by decide) rfl rfl (fun w h => in_of (uw_6 w h)) (in_of qfRX5_26) tyX5 tyX5_ok nmX5 rfl rfl rfl (tyX5_ok 2 (by decide)) rfl rfl dX5_init_26 h1 ?_
  refine k_aload_n B 0 rfl rfl dX5_init_29 ?_
  refine k_new B 10 rfl rfl (by decide) tyX9 tyX9_ok (by decide +kernel) (fun w h => in_of (uw_10 w h)) (in_of qkRX5_29) (in_of qn10) (in_of qzRX9) h2 h3 dX5_init_30 (fun q30 f30 => ?_)
  refine k_sub [1] rfl ?_
  exact kk q30 f30
theorem bX5_init_33 (B : Bd p s m args meth c cX5_init 4 (wsOf yX5_init cX5_init 4 none) RX5 w none "<init>") {v1 : Nat} {t0 : Nat} {t1 : Nat} {post : St → Prop} {k n : Nat} {Q : State → Prop} (hc : ConV l yX9_init (wsOf yX9_init cX9_init 2 none) rX9_init w S [.ref t1, .ref v1] post) (h1 : k + 0 ≤ rX5_init.cells) (h2 : n + 0 ≤ rX5_init.slots) (kk : ∀ (S' : St), post S' → K p l e rX5_init s m args below meth c 4 w k n Q S' 38 [] [.ref t1, .ref t0]) : K p l e rX5_init s m args below meth c 4 w k n Q S 33 [(1, .ref v1)] [.ref t1, .ref t0] := by
  refine k_dup B rfl dX5_init_33 ?_
  refine k_aload_n B 0 rfl rfl dX5_init_34 ?_
  refine callC_V (st := [.ref t1, .ref t0]) B [.ref v1] (hc) (cwI 1 B.1.2.2.2.2 (gB qcX9_init) rfl rfl rfl (B.1.2.2.2.2 _ (in_of qzRX9)) (B.1.2.2.2.2 _ (in_of qlRX5_31)) (B.1.2.2.2.2 _ (in_of qiX9_init)) rfl (by decide +kernel) ⟨Nat.le_of_ble_eq_true rfl, Nat.le_of_ble_eq_true rfl⟩) rfl (Nat.le_of_ble_eq_true rfl) rfl dX5_init_35 ⟨h1, h2⟩ (fun S' hp => ?_)
  refine k_sub [] rfl ?_
  exact kk S' hp
theorem bX5_init_38 (B : Bd p s m args meth c cX5_init 4 (wsOf yX5_init cX5_init 4 none) RX5 w none "<init>") {t0 : Nat} {t1 : Nat} {post : St → Prop} {k n : Nat} (h1 : kd S t0 = 7) (hq : post (sP S 387 t0 (some t1))) : K p l e rX5_init s m args below meth c 4 w k n (MQ below (va_Qv post (fun S' t => Hd w S' t.heap) (wA w)) args s k n (wA w)) S 38 [] [.ref t1, .ref t0] := by
  refine k_putPF (f := 387) (v := some t1) B 6 3 rfl (by decide) rfl (by decide) rfl rfl (fun w h => in_of (uw_6 w h)) (in_of qfRX5_34) tyX5 tyX5_ok nmX5 rfl rfl rfl (tyX5_ok 3 (by decide)) rfl rfl dX5_init_38 h1 ?_
  exact ret_V B rfl dX5_init_41 (hq)
theorem bX5_begin_0 (B : Bd p s m args meth c cX5_begin 1 (wsOf yX5_begin cX5_begin 1 none) RX5 w none "begin") {v0 : Nat} {post : St → Prop} (h1 : kd S v0 = 7) (hq : post (sI (sI S 388 v0 0) 389 v0 0)) : K p l e rX5_begin s m args below meth c 1 w 0 0 (MQ below (va_Qv post (fun S' t => Hd w S' t.heap) (wA w)) args s 0 0 (wA w)) S 0 [(0, .ref v0)] [] := by
  refine k_aload_n B 0 rfl rfl dX5_begin_0 ?_
  refine k_iconst (v := 0) B (by decide) dX5_begin_1 ?_
  refine k_putI (f := 388) B 6 4 rfl (by decide) rfl (by decide) rfl rfl (fun w h => in_of (uw_6 w h)) (in_of qfRX5_9) tyX5 tyX5_ok nmX5 rfl (tyX5_ok 4 (by decide)) dX5_begin_2 h1 ?_
  refine k_aload_n B 0 rfl rfl dX5_begin_5 ?_
  refine k_iconst (v := 0) B (by decide) dX5_begin_6 ?_
  refine k_putI (f := 389) B 6 5 rfl (by decide) rfl (by decide) rfl rfl (fun w h => in_of (uw_6 w h)) (in_of qfRX5_15) tyX5 tyX5_ok nmX5 rfl (tyX5_ok 5 (by decide)) dX5_begin_7 h1 ?_
  exact ret_V B rfl dX5_begin_10 (hq)
theorem bX5_driveVan_0 (B : Bd p s m args meth c cX5_driveVan 4 (wsOf yX5_driveVan cX5_driveVan 4 none) RX5 w none "driveVan") {v0 : Nat} {v1 : Nat} {x1 : Nat} {post : St → Prop} {Q : State → Prop} (h1 : kd S v0 = 7) (h2 : gP S 387 v0 = some x1) (h3 : kd S v1 = 12) (hc : ConV l yX9_begin (wsOf yX9_begin cX9_begin 2 none) rX9_begin w S [.ref x1, .int (gI S 706 v1)] post) (h4 : kd S x1 = 11) (kk : ∀ (S' : St), post S' → K p l e rX5_driveVan s m args below meth c 4 w 0 0 Q S' 11 [(0, .ref v0), (1, .ref v1)] []) : K p l e rX5_driveVan s m args below meth c 4 w 0 0 Q S 0 [(0, .ref v0), (1, .ref v1)] [] := by
  refine k_aload_n B 0 rfl rfl dX5_driveVan_0 ?_
  refine k_getP (f := 387) (r := gP S 387 v0) B 6 3 rfl (by decide) rfl (by decide) rfl rfl (fun w h => in_of (uw_6 w h)) (in_of qfRX5_34) dX5_driveVan_1 h1 rfl ?_
  rw [h2]; change K _ _ _ _ _ _ _ _ _ _ _ _ _ _ _ _ _ _ (.ref x1 :: _)
  refine k_aload_n B 1 rfl rfl dX5_driveVan_4 ?_
  refine k_getI (f := 706) (v := gI S 706 v1) B 11 2 rfl (by decide) rfl (by decide) rfl rfl (fun w h => in_of (uw_11 w h)) (in_of qfRX5_38) dX5_driveVan_5 h3 rfl ?_
  refine callV_V (st := []) B [.int (gI S 706 v1)] (hc) (cwV 1 B.1.2.2.2.2 (gV qlRX5_43 qiX9_begin qeX9_begin qzRX9 qcX9_begin) rfl rfl rfl (by decide +kernel) ⟨Nat.le_of_ble_eq_true rfl, Nat.le_of_ble_eq_true rfl⟩) rfl rfl (by decide) h4 (Nat.le_of_ble_eq_true rfl) rfl dX5_driveVan_8 ⟨Nat.le_of_ble_eq_true rfl, Nat.le_of_ble_eq_true rfl⟩ (fun S' hp => ?_)
  exact kk S' hp
theorem bX5_driveVan_11 (B : Bd p s m args meth c cX5_driveVan 4 (wsOf yX5_driveVan cX5_driveVan 4 none) RX5 w none "driveVan") {v0 : Nat} {v1 : Nat} {Q : State → Prop}  (kk : K p l e rX5_driveVan s m args below meth c 4 w 0 0 Q S 13 [(0, .ref v0), (1, .ref v1), (2, .int 0)] []) : K p l e rX5_driveVan s m args below meth c 4 w 0 0 Q S 11 [(0, .ref v0), (1, .ref v1)] [] := by
  refine k_iconst (v := 0) B (by decide) dX5_driveVan_11 ?_
  refine k_istore_n (lst' := [(2, .int 0), (0, .ref v0), (1, .ref v1)]) B rfl (by decide) rfl dX5_driveVan_12 ?_
  refine k_sub [1, 2, 0] rfl ?_
  exact kk
theorem bX5_driveVan_13 (B : Bd p s m args meth c cX5_driveVan 4 (wsOf yX5_driveVan cX5_driveVan 4 none) RX5 w none "driveVan") {v0 : Nat} {v1 : Nat} {v2 : Int32} {x1 : Nat} {Q : State → Prop} (h1 : kd S v1 = 12) (h2 : gP S 708 v1 = some x1) (h3 : kd S x1 = 8) (kt : (gI S 449 x1) ≤ v2 → K p l e rX5_driveVan s m args below meth c 4 w 0 0 Q S 86 [(0, .ref v0)] []) (kf : ¬ (gI S 449 x1) ≤ v2 → K p l e rX5_driveVan s m args below meth c 4 w 0 0 Q S 24 [(0, .ref v0), (1, .ref v1), (2, .int v2)] []) : K p l e rX5_driveVan s m args below meth c 4 w 0 0 Q S 13 [(0, .ref v0), (1, .ref v1), (2, .int v2)] [] := by
  refine k_iload_n B 2 rfl rfl dX5_driveVan_13 ?_
  refine k_aload_n B 1 rfl rfl dX5_driveVan_14 ?_
  refine k_getP (f := 708) (r := gP S 708 v1) B 11 4 rfl (by decide) rfl (by decide) rfl rfl (fun w h => in_of (uw_11 w h)) (in_of qfRX5_47) dX5_driveVan_15 h1 rfl ?_
  rw [h2]; change K _ _ _ _ _ _ _ _ _ _ _ _ _ _ _ _ _ _ (.ref x1 :: _)
  refine k_getI (f := 449) (v := gI S 449 x1) B 7 1 rfl (by decide) rfl (by decide) rfl rfl (fun w h => in_of (uw_7 w h)) (in_of qfRX5_51) dX5_driveVan_18 h3 rfl ?_
  refine k_icmp_ge (tgt := 86) B dX5_driveVan_21 (by decide) (fun c => ?_) (fun c => ?_)
  · refine k_sub [0] rfl ?_
    exact kt c
  · exact kf c
theorem bX5_driveVan_24 (B : Bd p s m args meth c cX5_driveVan 4 (wsOf yX5_driveVan cX5_driveVan 4 none) RX5 w none "driveVan") {v0 : Nat} {v1 : Nat} {v2 : Int32} {x1 : Nat} {Q : State → Prop} (h1 : kd S v0 = 7) (h2 : gP S 387 v0 = some x1) (h3 : kd S x1 = 11) (h4 : kd S v1 = 12) (kt : ((gI S 707 v1) + 60) < (gI S 643 x1) → K p l e rX5_driveVan s m args below meth c 4 w 0 0 Q S 86 [(0, .ref v0)] []) (kf : ¬ ((gI S 707 v1) + 60) < (gI S 643 x1) → K p l e rX5_driveVan s m args below meth c 4 w 0 0 Q S 41 [(0, .ref v0), (1, .ref v1), (2, .int v2)] []) : K p l e rX5_driveVan s m args below meth c 4 w 0 0 Q S 24 [(0, .ref v0), (1, .ref v1), (2, .int v2)] [] := by
  refine k_aload_n B 0 rfl rfl dX5_driveVan_24 ?_
  refine k_getP (f := 387) (r := gP S 387 v0) B 6 3 rfl (by decide) rfl (by decide) rfl rfl (fun w h => in_of (uw_6 w h)) (in_of qfRX5_34) dX5_driveVan_25 h1 rfl ?_
  rw [h2]; change K _ _ _ _ _ _ _ _ _ _ _ _ _ _ _ _ _ _ (.ref x1 :: _)
  refine k_getI (f := 643) (v := gI S 643 x1) B 10 3 rfl (by decide) rfl (by decide) rfl rfl (fun w h => in_of (uw_10 w h)) (in_of qfRX5_56) dX5_driveVan_28 h3 rfl ?_
  refine k_aload_n B 1 rfl rfl dX5_driveVan_31 ?_
  refine k_getI (f := 707) (v := gI S 707 v1) B 11 3 rfl (by decide) rfl (by decide) rfl rfl (fun w h => in_of (uw_11 w h)) (in_of qfRX5_59) dX5_driveVan_32 h4 rfl ?_
  refine k_bipush (v := 60) B (by decide) dX5_driveVan_35 ?_
  refine k_iadd B dX5_driveVan_37 ?_
  refine k_icmp_gt (tgt := 86) B dX5_driveVan_38 (by decide) (fun c => ?_) (fun c => ?_)
  · refine k_sub [0] rfl ?_
    exact kt c
  · exact kf c
theorem bX5_driveVan_41 (B : Bd p s m args meth c cX5_driveVan 4 (wsOf yX5_driveVan cX5_driveVan 4 none) RX5 w none "driveVan") {v0 : Nat} {v1 : Nat} {v2 : Int32} {x1 : Nat} {post : Nat → St → Prop} {Q : State → Prop} (h1 : kd S v1 = 12) (h2 : gP S 708 v1 = some x1) (hc : ConR l yX6_at (wsOf yX6_at cX6_at 2 (some (.object "LastMile$Parcel"))) rX6_at w S [.ref x1, .int v2] post) (h3 : kd S x1 = 8) (kk : ∀ (r : Nat) (S' : St), post r S' → K p l e rX5_driveVan s m args below meth c 4 w 0 0 Q S' 49 [(0, .ref v0), (1, .ref v1), (2, .int v2)] [.ref r]) : K p l e rX5_driveVan s m args below meth c 4 w 0 0 Q S 41 [(0, .ref v0), (1, .ref v1), (2, .int v2)] [] := by
  refine k_aload_n B 1 rfl rfl dX5_driveVan_41 ?_
  refine k_getP (f := 708) (r := gP S 708 v1) B 11 4 rfl (by decide) rfl (by decide) rfl rfl (fun w h => in_of (uw_11 w h)) (in_of qfRX5_47) dX5_driveVan_42 h1 rfl ?_
  rw [h2]; change K _ _ _ _ _ _ _ _ _ _ _ _ _ _ _ _ _ _ (.ref x1 :: _)
  refine k_iload_n B 2 rfl rfl dX5_driveVan_45 ?_
  refine callV_R (st := []) B [.int v2] (hc) (cwV 1 B.1.2.2.2.2 (gV qlRX5_62 qiX6_at qeX6_at qzRX6 qcX6_at) rfl rfl rfl (by decide +kernel) ⟨Nat.le_of_ble_eq_true rfl, Nat.le_of_ble_eq_true rfl⟩) rfl rfl (by decide) h3 (Nat.le_of_ble_eq_true rfl) rfl dX5_driveVan_46 ⟨Nat.le_of_ble_eq_true rfl, Nat.le_of_ble_eq_true rfl⟩ (fun r S' hp => ?_)
  exact kk r S' hp
theorem bX5_driveVan_49 (B : Bd p s m args meth c cX5_driveVan 4 (wsOf yX5_driveVan cX5_driveVan 4 none) RX5 w none "driveVan") {v0 : Nat} {v1 : Nat} {v2 : Int32} {t0 : Nat} {post : St → Prop} {Q : State → Prop} (hc : ConV l yX5_visit (wsOf yX5_visit cX5_visit 2 none) rX5_visit w S [.ref v0, .ref t0] post) (h1 : kd S v0 = 7) (kk : ∀ (S' : St), post S' → K p l e rX5_driveVan s m args below meth c 4 w 0 0 Q S' 55 [(0, .ref v0), (1, .ref v1), (2, .int v2), (3, .ref t0)] []) : K p l e rX5_driveVan s m args below meth c 4 w 0 0 Q S 49 [(0, .ref v0), (1, .ref v1), (2, .int v2)] [.ref t0] := by
  refine k_astore_n (lst' := [(3, .ref t0), (0, .ref v0), (1, .ref v1), (2, .int v2)]) B rfl (by decide) rfl dX5_driveVan_49 ?_
  refine k_aload_n B 1 rfl rfl dX5_driveVan_50 ?_
  refine k_aload_n B 0 rfl rfl dX5_driveVan_51 ?_
  refine callV_V (st := []) B [.ref t0] (hc) (cwV 1 B.1.2.2.2.2 (gV qlRX5_66 qiX5_visit qeX5_visit qzRX5 qcX5_visit) rfl rfl rfl (by decide +kernel) ⟨Nat.le_of_ble_eq_true rfl, Nat.le_of_ble_eq_true rfl⟩) rfl rfl (by decide) h1 (Nat.le_of_ble_eq_true rfl) rfl dX5_driveVan_52 ⟨Nat.le_of_ble_eq_true rfl, Nat.le_of_ble_eq_true rfl⟩ (fun S' hp => ?_)
  refine k_sub [1, 2, 3, 0] rfl ?_
  exact kk S' hp
theorem bX5_driveVan_55 (B : Bd p s m args meth c cX5_driveVan 4 (wsOf yX5_driveVan cX5_driveVan 4 none) RX5 w none "driveVan") {v0 : Nat} {v1 : Nat} {v2 : Int32} {v3 : Nat} {Q : State → Prop} (h1 : kd S v3 = 5) (kt : ¬ (gI S 265 v3) = 0 → K p l e rX5_driveVan s m args below meth c 4 w 0 0 Q S 75 [(0, .ref v0), (1, .ref v1), (2, .int v2), (3, .ref v3)] []) (kf : (gI S 265 v3) = 0 → K p l e rX5_driveVan s m args below meth c 4 w 0 0 Q S 62 [(0, .ref v0), (1, .ref v1), (2, .int v2), (3, .ref v3)] []) : K p l e rX5_driveVan s m args below meth c 4 w 0 0 Q S 55 [(0, .ref v0), (1, .ref v1), (2, .int v2), (3, .ref v3)] [] := by
  refine k_aload_n B 3 rfl rfl dX5_driveVan_55 ?_
  refine k_getI (f := 265) (v := gI S 265 v3) B 4 9 rfl (by decide) rfl (by decide) rfl rfl (fun w h => in_of (uw_4 w h)) (in_of qfRX5_70) dX5_driveVan_56 h1 rfl ?_
  refine k_if_ne (tgt := 75) B dX5_driveVan_59 (by decide) (fun c => ?_) (fun c => ?_)
  · exact kt c
  · exact kf c
theorem bX5_driveVan_62 (B : Bd p s m args meth c cX5_driveVan 4 (wsOf yX5_driveVan cX5_driveVan 4 none) RX5 w none "driveVan") {v0 : Nat} {v1 : Nat} {v2 : Int32} {v3 : Nat} {Q : State → Prop} (h1 : kd S v3 = 5) (kt : (gI S 257 v3) = 2 → K p l e rX5_driveVan s m args below meth c 4 w 0 0 Q S 75 [(0, .ref v0), (1, .ref v1), (2, .int v2), (3, .ref v3)] []) (kf : ¬ (gI S 257 v3) = 2 → K p l e rX5_driveVan s m args below meth c 4 w 0 0 Q S 70 [(0, .ref v0), (1, .ref v1), (2, .int v2), (3, .ref v3)] []) : K p l e rX5_driveVan s m args below meth c 4 w 0 0 Q S 62 [(0, .ref v0), (1, .ref v1), (2, .int v2), (3, .ref v3)] [] := by
  refine k_aload_n B 3 rfl rfl dX5_driveVan_62 ?_
  refine k_getI (f := 257) (v := gI S 257 v3) B 4 1 rfl (by decide) rfl (by decide) rfl rfl (fun w h => in_of (uw_4 w h)) (in_of qfRX5_75) dX5_driveVan_63 h1 rfl ?_
  refine k_iconst (v := 2) B (by decide) dX5_driveVan_66 ?_
  refine k_icmp_eq (tgt := 75) B dX5_driveVan_67 (by decide) (fun c => ?_) (fun c => ?_)
  · exact kt c
  · exact kf c
theorem bX5_driveVan_70 (B : Bd p s m args meth c cX5_driveVan 4 (wsOf yX5_driveVan cX5_driveVan 4 none) RX5 w none "driveVan") {v0 : Nat} {v1 : Nat} {v2 : Int32} {v3 : Nat} {post : St → Prop} {Q : State → Prop} (hc : ConV l yX5_tryOrders (wsOf yX5_tryOrders cX5_tryOrders 5 none) rX5_tryOrders w S [.ref v0, .ref v3] post) (h1 : kd S v0 = 7) (kk : ∀ (S' : St), post S' → K p l e rX5_driveVan s m args below meth c 4 w 0 0 Q S' 75 [(0, .ref v0), (1, .ref v1), (2, .int v2), (3, .ref v3)] []) : K p l e rX5_driveVan s m args below meth c 4 w 0 0 Q S 70 [(0, .ref v0), (1, .ref v1), (2, .int v2), (3, .ref v3)] [] := by
  refine k_aload_n B 0 rfl rfl dX5_driveVan_70 ?_
  refine k_aload_n B 3 rfl rfl dX5_driveVan_71 ?_
  refine callV_V (st := []) B [.ref v3] (hc) (cwV 1 B.1.2.2.2.2 (gV qlRX5_78 qiX5_tryOrders qeX5_tryOrders qzRX5 qcX5_tryOrders) rfl rfl rfl (by decide +kernel) ⟨Nat.le_of_ble_eq_true rfl, Nat.le_of_ble_eq_true rfl⟩) rfl rfl (by decide) h1 (Nat.le_of_ble_eq_true rfl) rfl dX5_driveVan_72 ⟨Nat.le_of_ble_eq_true rfl, Nat.le_of_ble_eq_true rfl⟩ (fun S' hp => ?_)
  exact kk S' hp
theorem bX5_driveVan_75 (B : Bd p s m args meth c cX5_driveVan 4 (wsOf yX5_driveVan cX5_driveVan 4 none) RX5 w none "driveVan") {v0 : Nat} {v1 : Nat} {v2 : Int32} {v3 : Nat} {post : St → Prop} {Q : State → Prop} (hc : ConV l yX5_settle (wsOf yX5_settle cX5_settle 2 none) rX5_settle w S [.ref v0, .ref v3] post) (h1 : kd S v0 = 7) (kk : ∀ (S' : St), post S' → K p l e rX5_driveVan s m args below meth c 4 w 0 0 Q S' 80 [(0, .ref v0), (1, .ref v1), (2, .int v2)] []) : K p l e rX5_driveVan s m args below meth c 4 w 0 0 Q S 75 [(0, .ref v0), (1, .ref v1), (2, .int v2), (3, .ref v3)] [] := by
  refine k_aload_n B 0 rfl rfl dX5_driveVan_75 ?_
  refine k_aload_n B 3 rfl rfl dX5_driveVan_76 ?_
  refine callV_V (st := []) B [.ref v3] (hc) (cwV 1 B.1.2.2.2.2 (gV qlRX5_81 qiX5_settle qeX5_settle qzRX5 qcX5_settle) rfl rfl rfl (by decide +kernel) ⟨Nat.le_of_ble_eq_true rfl, Nat.le_of_ble_eq_true rfl⟩) rfl rfl (by decide) h1 (Nat.le_of_ble_eq_true rfl) rfl dX5_driveVan_77 ⟨Nat.le_of_ble_eq_true rfl, Nat.le_of_ble_eq_true rfl⟩ (fun S' hp => ?_)
  refine k_sub [0, 1, 2] rfl ?_
  exact kk S' hp
theorem bX5_driveVan_80 (B : Bd p s m args meth c cX5_driveVan 4 (wsOf yX5_driveVan cX5_driveVan 4 none) RX5 w none "driveVan") {v0 : Nat} {v1 : Nat} {v2 : Int32} {Q : State → Prop}  (kk : K p l e rX5_driveVan s m args below meth c 4 w 0 0 Q S 13 [(0, .ref v0), (1, .ref v1), (2, .int (v2 + 1))] []) : K p l e rX5_driveVan s m args below meth c 4 w 0 0 Q S 80 [(0, .ref v0), (1, .ref v1), (2, .int v2)] [] := by
  refine k_iinc (v := v2 + 1) (lst' := [(2, .int (v2 + 1)), (0, .ref v0), (1, .ref v1)]) B 2 rfl rfl (by decide) rfl dX5_driveVan_80 ?_
  refine k_goto (tgt := 13) B dX5_driveVan_83 (by decide) ?_
  refine k_sub [1, 2, 0] rfl ?_
  exact kk
theorem bX5_driveVan_86 (B : Bd p s m args meth c cX5_driveVan 4 (wsOf yX5_driveVan cX5_driveVan 4 none) RX5 w none "driveVan") {v0 : Nat} {x1 : Nat} {x2 : Nat} {x3 : Nat} {post : St → Prop} {Q : State → Prop} (h1 : kd S v0 = 7) (h2 : gP S 387 v0 = some x1) (h3 : gP S 384 v0 = some x2) (h4 : kd S x2 = 10) (h5 : gP S 577 x2 = some x3) (hc : ConV l yX9_goWithBreak (wsOf yX9_goWithBreak cX9_goWithBreak 3 none) rX9_goWithBreak w S [.ref x1, .ref x3] post) (h6 : kd S x1 = 11) (kk : ∀ (S' : St), post S' → K p l e rX5_driveVan s m args below meth c 4 w 0 0 Q S' 100 [(0, .ref v0)] []) : K p l e rX5_driveVan s m args below meth c 4 w 0 0 Q S 86 [(0, .ref v0)] [] := by
  refine k_aload_n B 0 rfl rfl dX5_driveVan_86 ?_
  refine k_getP (f := 387) (r := gP S 387 v0) B 6 3 rfl (by decide) rfl (by decide) rfl rfl (fun w h => in_of (uw_6 w h)) (in_of qfRX5_34) dX5_driveVan_87 h1 rfl ?_
  rw [h2]; change K _ _ _ _ _ _ _ _ _ _ _ _ _ _ _ _ _ _ (.ref x1 :: _)
  refine k_aload_n B 0 rfl rfl dX5_driveVan_90 ?_
  refine k_getP (f := 384) (r := gP S 384 v0) B 6 0 rfl (by decide) rfl (by decide) rfl rfl (fun w h => in_of (uw_6 w h)) (in_of qfRX5_18) dX5_driveVan_91 h1 rfl ?_
  rw [h3]; change K _ _ _ _ _ _ _ _ _ _ _ _ _ _ _ _ _ _ (.ref x2 :: _)
  refine k_getP (f := 577) (r := gP S 577 x2) B 9 1 rfl (by decide) rfl (by decide) rfl rfl (fun w h => in_of (uw_9 w h)) (in_of qfRX5_84) dX5_driveVan_94 h4 rfl ?_
  rw [h5]; change K _ _ _ _ _ _ _ _ _ _ _ _ _ _ _ _ _ _ (.ref x3 :: _)
  refine callV_V (st := []) B [.ref x3] (hc) (cwV 1 B.1.2.2.2.2 (gV qlRX5_90 qiX9_goWithBreak qeX9_goWithBreak qzRX9 qcX9_goWithBreak) rfl rfl rfl (by decide +kernel) ⟨Nat.le_of_ble_eq_true rfl, Nat.le_of_ble_eq_true rfl⟩) rfl rfl (by decide) h6 (Nat.le_of_ble_eq_true rfl) rfl dX5_driveVan_97 ⟨Nat.le_of_ble_eq_true rfl, Nat.le_of_ble_eq_true rfl⟩ (fun S' hp => ?_)
  exact kk S' hp
theorem bX5_driveVan_100 (B : Bd p s m args meth c cX5_driveVan 4 (wsOf yX5_driveVan cX5_driveVan 4 none) RX5 w none "driveVan") {v0 : Nat} {x1 : Nat} {Q : State → Prop} (h1 : kd S v0 = 7) (h2 : gP S 387 v0 = some x1) (h3 : kd S x1 = 11) (kt : (gI S 643 x1) ≤ (gI S 389 v0) → K p l e rX5_driveVan s m args below meth c 4 w 0 0 Q S 125 [] []) (kf : ¬ (gI S 643 x1) ≤ (gI S 389 v0) → K p l e rX5_driveVan s m args below meth c 4 w 0 0 Q S 114 [(0, .ref v0)] []) : K p l e rX5_driveVan s m args below meth c 4 w 0 0 Q S 100 [(0, .ref v0)] [] := by
  refine k_aload_n B 0 rfl rfl dX5_driveVan_100 ?_
  refine k_getP (f := 387) (r := gP S 387 v0) B 6 3 rfl (by decide) rfl (by decide) rfl rfl (fun w h => in_of (uw_6 w h)) (in_of qfRX5_34) dX5_driveVan_101 h1 rfl ?_
  rw [h2]; change K _ _ _ _ _ _ _ _ _ _ _ _ _ _ _ _ _ _ (.ref x1 :: _)
  refine k_getI (f := 643) (v := gI S 643 x1) B 10 3 rfl (by decide) rfl (by decide) rfl rfl (fun w h => in_of (uw_10 w h)) (in_of qfRX5_56) dX5_driveVan_104 h3 rfl ?_
  refine k_aload_n B 0 rfl rfl dX5_driveVan_107 ?_
  refine k_getI (f := 389) (v := gI S 389 v0) B 6 5 rfl (by decide) rfl (by decide) rfl rfl (fun w h => in_of (uw_6 w h)) (in_of qfRX5_15) dX5_driveVan_108 h1 rfl ?_
  refine k_icmp_le (tgt := 125) B dX5_driveVan_111 (by decide) (fun c => ?_) (fun c => ?_)
  · refine k_sub [] rfl ?_
    exact kt c
  · exact kf c
theorem bX5_driveVan_114 (B : Bd p s m args meth c cX5_driveVan 4 (wsOf yX5_driveVan cX5_driveVan 4 none) RX5 w none "driveVan") {v0 : Nat} {x1 : Nat} {Q : State → Prop} (h1 : kd S v0 = 7) (h2 : gP S 387 v0 = some x1) (h3 : kd S x1 = 11) (kk : K p l e rX5_driveVan s m args below meth c 4 w 0 0 Q (sI S 389 v0 (gI S 643 x1)) 125 [] []) : K p l e rX5_driveVan s m args below meth c 4 w 0 0 Q S 114 [(0, .ref v0)] [] := by
  refine k_aload_n B 0 rfl rfl dX5_driveVan_114 ?_
  refine k_aload_n B 0 rfl rfl dX5_driveVan_115 ?_
  refine k_getP (f := 387) (r := gP S 387 v0) B 6 3 rfl (by decide) rfl (by decide) rfl rfl (fun w h => in_of (uw_6 w h)) (in_of qfRX5_34) dX5_driveVan_116 h1 rfl ?_
  rw [h2]; change K _ _ _ _ _ _ _ _ _ _ _ _ _ _ _ _ _ _ (.ref x1 :: _)
  refine k_getI (f := 643) (v := gI S 643 x1) B 10 3 rfl (by decide) rfl (by decide) rfl rfl (fun w h => in_of (uw_10 w h)) (in_of qfRX5_56) dX5_driveVan_119 h3 rfl ?_
  refine k_putI (f := 389) B 6 5 rfl (by decide) rfl (by decide) rfl rfl (fun w h => in_of (uw_6 w h)) (in_of qfRX5_15) tyX5 tyX5_ok nmX5 rfl (tyX5_ok 5 (by decide)) dX5_driveVan_122 h1 ?_
  refine k_sub [] rfl ?_
  exact kk
theorem bX5_driveVan_125 (B : Bd p s m args meth c cX5_driveVan 4 (wsOf yX5_driveVan cX5_driveVan 4 none) RX5 w none "driveVan") {post : St → Prop}  (hq : post S) : K p l e rX5_driveVan s m args below meth c 4 w 0 0 (MQ below (va_Qv post (fun S' t => Hd w S' t.heap) (wA w)) args s 0 0 (wA w)) S 125 [] [] := by
  exact ret_V B rfl dX5_driveVan_125 (hq)
theorem bX5_visit_0 (B : Bd p s m args meth c cX5_visit 2 (wsOf yX5_visit cX5_visit 2 none) RX5 w none "visit") {v0 : Nat} {v1 : Nat} {x1 : Nat} {x2 : Nat} {x3 : Nat} {post : St → Prop} {Q : State → Prop} (h1 : kd S v0 = 7) (h2 : gP S 387 v0 = some x1) (h3 : kd S v1 = 5) (h4 : gP S 260 v1 = some x2) (h5 : kd S x2 = 3) (h6 : gP S 128 x2 = some x3) (hc : ConV l yX9_goWithBreak (wsOf yX9_goWithBreak cX9_goWithBreak 3 none) rX9_goWithBreak w S [.ref x1, .ref x3] post) (h7 : kd S x1 = 11) (kk : ∀ (S' : St), post S' → K p l e rX5_visit s m args below meth c 2 w 0 0 Q S' 14 [(0, .ref v0), (1, .ref v1)] []) : K p l e rX5_visit s m args below meth c 2 w 0 0 Q S 0 [(0, .ref v0), (1, .ref v1)] [] := by
  refine k_aload_n B 0 rfl rfl dX5_visit_0 ?_
  refine k_getP (f := 387) (r := gP S 387 v0) B 6 3 rfl (by decide) rfl (by decide) rfl rfl (fun w h => in_of (uw_6 w h)) (in_of qfRX5_34) dX5_visit_1 h1 rfl ?_
  rw [h2]; change K _ _ _ _ _ _ _ _ _ _ _ _ _ _ _ _ _ _ (.ref x1 :: _)
  refine k_aload_n B 1 rfl rfl dX5_visit_4 ?_
  refine k_getP (f := 260) (r := gP S 260 v1) B 4 4 rfl (by decide) rfl (by decide) rfl rfl (fun w h => in_of (uw_4 w h)) (in_of qfRX5_94) dX5_visit_5 h3 rfl ?_
  rw [h4]; change K _ _ _ _ _ _ _ _ _ _ _ _ _ _ _ _ _ _ (.ref x2 :: _)
  refine k_getP (f := 128) (r := gP S 128 x2) B 2 0 rfl (by decide) rfl (by decide) rfl rfl (fun w h => in_of (uw_2 w h)) (in_of qfRX5_98) dX5_visit_8 h5 rfl ?_
  rw [h6]; change K _ _ _ _ _ _ _ _ _ _ _ _ _ _ _ _ _ _ (.ref x3 :: _)
  refine callV_V (st := []) B [.ref x3] (hc) (cwV 1 B.1.2.2.2.2 (gV qlRX5_90 qiX9_goWithBreak qeX9_goWithBreak qzRX9 qcX9_goWithBreak) rfl rfl rfl (by decide +kernel) ⟨Nat.le_of_ble_eq_true rfl, Nat.le_of_ble_eq_true rfl⟩) rfl rfl (by decide) h7 (Nat.le_of_ble_eq_true rfl) rfl dX5_visit_11 ⟨Nat.le_of_ble_eq_true rfl, Nat.le_of_ble_eq_true rfl⟩ (fun S' hp => ?_)
  exact kk S' hp
theorem bX5_visit_14 (B : Bd p s m args meth c cX5_visit 2 (wsOf yX5_visit cX5_visit 2 none) RX5 w none "visit") {v0 : Nat} {v1 : Nat} {x1 : Nat} {post : St → Prop} {Q : State → Prop} (h1 : kd S v0 = 7) (h2 : gP S 387 v0 = some x1) (h3 : kd S v1 = 5) (hc : ConV l yX9_waitTill (wsOf yX9_waitTill cX9_waitTill 2 none) rX9_waitTill w S [.ref x1, .int (gI S 261 v1)] post) (h4 : kd S x1 = 11) (kk : ∀ (S' : St), post S' → K p l e rX5_visit s m args below meth c 2 w 0 0 Q S' 25 [(0, .ref v0), (1, .ref v1)] []) : K p l e rX5_visit s m args below meth c 2 w 0 0 Q S 14 [(0, .ref v0), (1, .ref v1)] [] := by
  refine k_aload_n B 0 rfl rfl dX5_visit_14 ?_
  refine k_getP (f := 387) (r := gP S 387 v0) B 6 3 rfl (by decide) rfl (by decide) rfl rfl (fun w h => in_of (uw_6 w h)) (in_of qfRX5_34) dX5_visit_15 h1 rfl ?_
  rw [h2]; change K _ _ _ _ _ _ _ _ _ _ _ _ _ _ _ _ _ _ (.ref x1 :: _)
  refine k_aload_n B 1 rfl rfl dX5_visit_18 ?_
  refine k_getI (f := 261) (v := gI S 261 v1) B 4 5 rfl (by decide) rfl (by decide) rfl rfl (fun w h => in_of (uw_4 w h)) (in_of qfRX5_103) dX5_visit_19 h3 rfl ?_
  refine callV_V (st := []) B [.int (gI S 261 v1)] (hc) (cwV 1 B.1.2.2.2.2 (gV qlRX5_106 qiX9_waitTill qeX9_waitTill qzRX9 qcX9_waitTill) rfl rfl rfl (by decide +kernel) ⟨Nat.le_of_ble_eq_true rfl, Nat.le_of_ble_eq_true rfl⟩) rfl rfl (by decide) h4 (Nat.le_of_ble_eq_true rfl) rfl dX5_visit_22 ⟨Nat.le_of_ble_eq_true rfl, Nat.le_of_ble_eq_true rfl⟩ (fun S' hp => ?_)
  exact kk S' hp
theorem bX5_visit_25 (B : Bd p s m args meth c cX5_visit 2 (wsOf yX5_visit cX5_visit 2 none) RX5 w none "visit") {v0 : Nat} {v1 : Nat} {x1 : Nat} {x2 : Nat} {post : Int32 → St → Prop} {Q : State → Prop} (h1 : kd S v1 = 5) (h2 : gP S 260 v1 = some x1) (h3 : kd S v0 = 7) (h4 : gP S 387 v0 = some x2) (h5 : kd S x2 = 11) (hc : ConI l yX1_isSomebodyIn (wsOf yX1_isSomebodyIn cX1_isSomebodyIn 2 (some .boolean)) rX1_isSomebodyIn w S [.ref x1, .int (gI S 643 x2)] post) (h6 : kd S x1 = 3) (kk : ∀ (r : Int32) (S' : St), post r S' → K p l e rX5_visit s m args below meth c 2 w 0 0 Q S' 39 [(0, .ref v0), (1, .ref v1)] [.int r]) : K p l e rX5_visit s m args below meth c 2 w 0 0 Q S 25 [(0, .ref v0), (1, .ref v1)] [] := by
  refine k_aload_n B 1 rfl rfl dX5_visit_25 ?_
  refine k_getP (f := 260) (r := gP S 260 v1) B 4 4 rfl (by decide) rfl (by decide) rfl rfl (fun w h => in_of (uw_4 w h)) (in_of qfRX5_94) dX5_visit_26 h1 rfl ?_
  rw [h2]; change K _ _ _ _ _ _ _ _ _ _ _ _ _ _ _ _ _ _ (.ref x1 :: _)
  refine k_aload_n B 0 rfl rfl dX5_visit_29 ?_
  refine k_getP (f := 387) (r := gP S 387 v0) B 6 3 rfl (by decide) rfl (by decide) rfl rfl (fun w h => in_of (uw_6 w h)) (in_of qfRX5_34) dX5_visit_30 h3 rfl ?_
  rw [h4]; change K _ _ _ _ _ _ _ _ _ _ _ _ _ _ _ _ _ _ (.ref x2 :: _)
  refine k_getI (f := 643) (v := gI S 643 x2) B 10 3 rfl (by decide) rfl (by decide) rfl rfl (fun w h => in_of (uw_10 w h)) (in_of qfRX5_56) dX5_visit_33 h5 rfl ?_
  refine callV_I (st := []) B [.int (gI S 643 x2)] (hc) (cwV 1 B.1.2.2.2.2 (gV qlRX5_109 qiX1_isSomebodyIn qeX1_isSomebodyIn qzRX1 qcX1_isSomebodyIn) rfl rfl rfl (by decide +kernel) ⟨Nat.le_of_ble_eq_true rfl, Nat.le_of_ble_eq_true rfl⟩) rfl rfl (by decide) h6 (Nat.le_of_ble_eq_true rfl) rfl dX5_visit_36 ⟨Nat.le_of_ble_eq_true rfl, Nat.le_of_ble_eq_true rfl⟩ (fun r S' hp => ?_)
  exact kk r S' hp
theorem bX5_visit_39 (B : Bd p s m args meth c cX5_visit 2 (wsOf yX5_visit cX5_visit 2 none) RX5 w none "visit") {v0 : Nat} {v1 : Nat} {t0 : Int32} {Q : State → Prop}  (kt : t0 = 0 → K p l e rX5_visit s m args below meth c 2 w 0 0 Q S 50 [(0, .ref v0), (1, .ref v1)] []) (kf : ¬ t0 = 0 → K p l e rX5_visit s m args below meth c 2 w 0 0 Q S 42 [(0, .ref v0), (1, .ref v1)] []) : K p l e rX5_visit s m args below meth c 2 w 0 0 Q S 39 [(0, .ref v0), (1, .ref v1)] [.int t0] := by
  refine k_if_eq (tgt := 50) B dX5_visit_39 (by decide) (fun c => ?_) (fun c => ?_)
  · exact kt c
  · exact kf c
theorem bX5_visit_42 (B : Bd p s m args meth c cX5_visit 2 (wsOf yX5_visit cX5_visit 2 none) RX5 w none "visit") {v0 : Nat} {v1 : Nat} {Q : State → Prop} (h1 : kd S v1 = 5) (kk : K p l e rX5_visit s m args below meth c 2 w 0 0 Q (sI S 265 v1 1) 60 [(0, .ref v0)] []) : K p l e rX5_visit s m args below meth c 2 w 0 0 Q S 42 [(0, .ref v0), (1, .ref v1)] [] := by
  refine k_aload_n B 1 rfl rfl dX5_visit_42 ?_
  refine k_iconst (v := 1) B (by decide) dX5_visit_43 ?_
  refine k_putI (f := 265) B 4 9 rfl (by decide) rfl (by decide) rfl rfl (fun w h => in_of (uw_4 w h)) (in_of qfRX5_70) tyX3 tyX3_ok nmX3 rfl (tyX3_ok 9 (by decide)) dX5_visit_44 h1 ?_
  refine k_goto (tgt := 60) B dX5_visit_47 (by decide) ?_
  refine k_sub [0] rfl ?_
  exact kk
theorem bX5_visit_50 (B : Bd p s m args meth c cX5_visit 2 (wsOf yX5_visit cX5_visit 2 none) RX5 w none "visit") {v0 : Nat} {v1 : Nat} {Q : State → Prop} (h1 : kd S v1 = 5) (kk : K p l e rX5_visit s m args below meth c 2 w 0 0 Q (sI S 264 v1 ((gI S 264 v1) + 1)) 60 [(0, .ref v0)] []) : K p l e rX5_visit s m args below meth c 2 w 0 0 Q S 50 [(0, .ref v0), (1, .ref v1)] [] := by
  refine k_aload_n B 1 rfl rfl dX5_visit_50 ?_
  refine k_dup B rfl dX5_visit_51 ?_
  refine k_getI (f := 264) (v := gI S 264 v1) B 4 8 rfl (by decide) rfl (by decide) rfl rfl (fun w h => in_of (uw_4 w h)) (in_of qfRX5_113) dX5_visit_52 h1 rfl ?_
  refine k_iconst (v := 1) B (by decide) dX5_visit_55 ?_
  refine k_iadd B dX5_visit_56 ?_
  refine k_putI (f := 264) B 4 8 rfl (by decide) rfl (by decide) rfl rfl (fun w h => in_of (uw_4 w h)) (in_of qfRX5_113) tyX3 tyX3_ok nmX3 rfl (tyX3_ok 8 (by decide)) dX5_visit_57 h1 ?_
  refine k_sub [0] rfl ?_
  exact kk
theorem bX5_visit_60 (B : Bd p s m args meth c cX5_visit 2 (wsOf yX5_visit cX5_visit 2 none) RX5 w none "visit") {v0 : Nat} {x1 : Nat} {post : St → Prop} {Q : State → Prop} (h1 : kd S v0 = 7) (h2 : gP S 387 v0 = some x1) (hc : ConV l yX9_stay (wsOf yX9_stay cX9_stay 2 none) rX9_stay w S [.ref x1, .int 4] post) (h3 : kd S x1 = 11) (kk : ∀ (S' : St), post S' → K p l e rX5_visit s m args below meth c 2 w 0 0 Q S' 68 [] []) : K p l e rX5_visit s m args below meth c 2 w 0 0 Q S 60 [(0, .ref v0)] [] := by
  refine k_aload_n B 0 rfl rfl dX5_visit_60 ?_
  refine k_getP (f := 387) (r := gP S 387 v0) B 6 3 rfl (by decide) rfl (by decide) rfl rfl (fun w h => in_of (uw_6 w h)) (in_of qfRX5_34) dX5_visit_61 h1 rfl ?_
  rw [h2]; change K _ _ _ _ _ _ _ _ _ _ _ _ _ _ _ _ _ _ (.ref x1 :: _)
  refine k_iconst (v := 4) B (by decide) dX5_visit_64 ?_
  refine callV_V (st := []) B [.int 4] (hc) (cwV 1 B.1.2.2.2.2 (gV qlRX5_116 qiX9_stay qeX9_stay qzRX9 qcX9_stay) rfl rfl rfl (by decide +kernel) ⟨Nat.le_of_ble_eq_true rfl, Nat.le_of_ble_eq_true rfl⟩) rfl rfl (by decide) h3 (Nat.le_of_ble_eq_true rfl) rfl dX5_visit_65 ⟨Nat.le_of_ble_eq_true rfl, Nat.le_of_ble_eq_true rfl⟩ (fun S' hp => ?_)
  refine k_sub [] rfl ?_
  exact kk S' hp
theorem bX5_visit_68 (B : Bd p s m args meth c cX5_visit 2 (wsOf yX5_visit cX5_visit 2 none) RX5 w none "visit") {post : St → Prop}  (hq : post S) : K p l e rX5_visit s m args below meth c 2 w 0 0 (MQ below (va_Qv post (fun S' t => Hd w S' t.heap) (wA w)) args s 0 0 (wA w)) S 68 [] [] := by
  exact ret_V B rfl dX5_visit_68 (hq)
theorem bX5_settle_0 (B : Bd p s m args meth c cX5_settle 2 (wsOf yX5_settle cX5_settle 2 none) RX5 w none "settle") {v0 : Nat} {v1 : Nat} {Q : State → Prop} (h1 : kd S v1 = 5) (kt : (gI S 265 v1) = 0 → K p l e rX5_settle s m args below meth c 2 w 0 0 Q S 20 [(1, .ref v1)] []) (kf : ¬ (gI S 265 v1) = 0 → K p l e rX5_settle s m args below meth c 2 w 0 0 Q S 7 [(0, .ref v0)] []) : K p l e rX5_settle s m args below meth c 2 w 0 0 Q S 0 [(0, .ref v0), (1, .ref v1)] [] := by
  refine k_aload_n B 1 rfl rfl dX5_settle_0 ?_
  refine k_getI (f := 265) (v := gI S 265 v1) B 4 9 rfl (by decide) rfl (by decide) rfl rfl (fun w h => in_of (uw_4 w h)) (in_of qfRX5_70) dX5_settle_1 h1 rfl ?_
  refine k_if_eq (tgt := 20) B dX5_settle_4 (by decide) (fun c => ?_) (fun c => ?_)
  · refine k_sub [1] rfl ?_
    exact kt c
  · refine k_sub [0] rfl ?_
    exact kf c
theorem bX5_settle_7 (B : Bd p s m args meth c cX5_settle 2 (wsOf yX5_settle cX5_settle 2 none) RX5 w none "settle") {v0 : Nat} {Q : State → Prop} (h1 : kd S v0 = 7) (kk : K p l e rX5_settle s m args below meth c 2 w 0 0 Q (sI S 388 v0 ((gI S 388 v0) + 1)) 33 [] []) : K p l e rX5_settle s m args below meth c 2 w 0 0 Q S 7 [(0, .ref v0)] [] := by
  refine k_aload_n B 0 rfl rfl dX5_settle_7 ?_
  refine k_dup B rfl dX5_settle_8 ?_
  refine k_getI (f := 388) (v := gI S 388 v0) B 6 4 rfl (by decide) rfl (by decide) rfl rfl (fun w h => in_of (uw_6 w h)) (in_of qfRX5_9) dX5_settle_9 h1 rfl ?_
  refine k_iconst (v := 1) B (by decide) dX5_settle_12 ?_
  refine k_iadd B dX5_settle_13 ?_
  refine k_putI (f := 388) B 6 4 rfl (by decide) rfl (by decide) rfl rfl (fun w h => in_of (uw_6 w h)) (in_of qfRX5_9) tyX5 tyX5_ok nmX5 rfl (tyX5_ok 4 (by decide)) dX5_settle_14 h1 ?_
  refine k_goto (tgt := 33) B dX5_settle_17 (by decide) ?_
  refine k_sub [] rfl ?_
  exact kk
theorem bX5_settle_20 (B : Bd p s m args meth c cX5_settle 2 (wsOf yX5_settle cX5_settle 2 none) RX5 w none "settle") {v1 : Nat} {Q : State → Prop} (h1 : kd S v1 = 5) (kt : (gI S 264 v1) < 3 → K p l e rX5_settle s m args below meth c 2 w 0 0 Q S 33 [] []) (kf : ¬ (gI S 264 v1) < 3 → K p l e rX5_settle s m args below meth c 2 w 0 0 Q S 28 [(1, .ref v1)] []) : K p l e rX5_settle s m args below meth c 2 w 0 0 Q S 20 [(1, .ref v1)] [] := by
  refine k_aload_n B 0 rfl rfl dX5_settle_20 ?_
  refine k_getI (f := 264) (v := gI S 264 v1) B 4 8 rfl (by decide) rfl (by decide) rfl rfl (fun w h => in_of (uw_4 w h)) (in_of qfRX5_113) dX5_settle_21 h1 rfl ?_
  refine k_iconst (v := 3) B (by decide) dX5_settle_24 ?_
  refine k_icmp_lt (tgt := 33) B dX5_settle_25 (by decide) (fun c => ?_) (fun c => ?_)
  · refine k_sub [] rfl ?_
    exact kt c
  · exact kf c
theorem bX5_settle_28 (B : Bd p s m args meth c cX5_settle 2 (wsOf yX5_settle cX5_settle 2 none) RX5 w none "settle") {v1 : Nat} {Q : State → Prop} (h1 : kd S v1 = 5) (kk : K p l e rX5_settle s m args below meth c 2 w 0 0 Q (sI S 265 v1 4) 33 [] []) : K p l e rX5_settle s m args below meth c 2 w 0 0 Q S 28 [(1, .ref v1)] [] := by
  refine k_aload_n B 0 rfl rfl dX5_settle_28 ?_
  refine k_iconst (v := 4) B (by decide) dX5_settle_29 ?_
  refine k_putI (f := 265) B 4 9 rfl (by decide) rfl (by decide) rfl rfl (fun w h => in_of (uw_4 w h)) (in_of qfRX5_70) tyX3 tyX3_ok nmX3 rfl (tyX3_ok 9 (by decide)) dX5_settle_30 h1 ?_
  refine k_sub [] rfl ?_
  exact kk
theorem bX5_settle_33 (B : Bd p s m args meth c cX5_settle 2 (wsOf yX5_settle cX5_settle 2 none) RX5 w none "settle") {post : St → Prop}  (hq : post S) : K p l e rX5_settle s m args below meth c 2 w 0 0 (MQ below (va_Qv post (fun S' t => Hd w S' t.heap) (wA w)) args s 0 0 (wA w)) S 33 [] [] := by
  exact ret_V B rfl dX5_settle_33 (hq)
theorem bX5_tryOrders_0 (B : Bd p s m args meth c cX5_tryOrders 5 (wsOf yX5_tryOrders cX5_tryOrders 5 none) RX5 w none "tryOrders") {v0 : Nat} {v1 : Nat} {x1 : Nat} {Q : State → Prop} (h1 : kd S v1 = 5) (h2 : gP S 260 v1 = some x1) (kk : K p l e rX5_tryOrders s m args below meth c 5 w 0 0 Q S 7 [(0, .ref v0), (1, .ref v1), (2, .ref x1), (3, .int 0)] []) : K p l e rX5_tryOrders s m args below meth c 5 w 0 0 Q S 0 [(0, .ref v0), (1, .ref v1)] [] := by
  refine k_aload_n B 1 rfl rfl dX5_tryOrders_0 ?_
  refine k_getP (f := 260) (r := gP S 260 v1) B 4 4 rfl (by decide) rfl (by decide) rfl rfl (fun w h => in_of (uw_4 w h)) (in_of qfRX5_94) dX5_tryOrders_1 h1 rfl ?_
  rw [h2]; change K _ _ _ _ _ _ _ _ _ _ _ _ _ _ _ _ _ _ (.ref x1 :: _)
  refine k_astore_n (lst' := [(2, .ref x1), (0, .ref v0), (1, .ref v1)]) B rfl (by decide) rfl dX5_tryOrders_4 ?_
  refine k_iconst (v := 0) B (by decide) dX5_tryOrders_5 ?_
  refine k_istore_n (lst' := [(3, .int 0), (2, .ref x1), (0, .ref v0), (1, .ref v1)]) B rfl (by decide) rfl dX5_tryOrders_6 ?_
  refine k_sub [2, 3, 1, 0] rfl ?_
  exact kk
theorem bX5_tryOrders_7 (B : Bd p s m args meth c cX5_tryOrders 5 (wsOf yX5_tryOrders cX5_tryOrders 5 none) RX5 w none "tryOrders") {v0 : Nat} {v1 : Nat} {v2 : Nat} {v3 : Int32} {Q : State → Prop} (h1 : kd S v2 = 3) (kt : (gI S 131 v2) ≤ v3 → K p l e rX5_tryOrders s m args below meth c 5 w 0 0 Q S 68 [] []) (kf : ¬ (gI S 131 v2) ≤ v3 → K p l e rX5_tryOrders s m args below meth c 5 w 0 0 Q S 15 [(0, .ref v0), (1, .ref v1), (2, .ref v2), (3, .int v3)] []) : K p l e rX5_tryOrders s m args below meth c 5 w 0 0 Q S 7 [(0, .ref v0), (1, .ref v1), (2, .ref v2), (3, .int v3)] [] := by
  refine k_iload_n B 3 rfl rfl dX5_tryOrders_7 ?_
  refine k_aload_n B 2 rfl rfl dX5_tryOrders_8 ?_
  refine k_getI (f := 131) (v := gI S 131 v2) B 2 3 rfl (by decide) rfl (by decide) rfl rfl (fun w h => in_of (uw_2 w h)) (in_of qfRX5_119) dX5_tryOrders_9 h1 rfl ?_
  refine k_icmp_ge (tgt := 68) B dX5_tryOrders_12 (by decide) (fun c => ?_) (fun c => ?_)
  · refine k_sub [] rfl ?_
    exact kt c
  · exact kf c
theorem bX5_tryOrders_15 (B : Bd p s m args meth c cX5_tryOrders 5 (wsOf yX5_tryOrders cX5_tryOrders 5 none) RX5 w none "tryOrders") {v0 : Nat} {v1 : Nat} {v2 : Nat} {v3 : Int32} {Q : State → Prop} (h1 : kd S v1 = 5) (kt : ¬ (gI S 265 v1) = 0 → K p l e rX5_tryOrders s m args below meth c 5 w 0 0 Q S 68 [] []) (kf : (gI S 265 v1) = 0 → K p l e rX5_tryOrders s m args below meth c 5 w 0 0 Q S 22 [(0, .ref v0), (1, .ref v1), (2, .ref v2), (3, .int v3)] []) : K p l e rX5_tryOrders s m args below meth c 5 w 0 0 Q S 15 [(0, .ref v0), (1, .ref v1), (2, .ref v2), (3, .int v3)] [] := by
  refine k_aload_n B 1 rfl rfl dX5_tryOrders_15 ?_
  refine k_getI (f := 265) (v := gI S 265 v1) B 4 9 rfl (by decide) rfl (by decide) rfl rfl (fun w h => in_of (uw_4 w h)) (in_of qfRX5_70) dX5_tryOrders_16 h1 rfl ?_
  refine k_if_ne (tgt := 68) B dX5_tryOrders_19 (by decide) (fun c => ?_) (fun c => ?_)
  · refine k_sub [] rfl ?_
    exact kt c
  · exact kf c
theorem bX5_tryOrders_22 (B : Bd p s m args meth c cX5_tryOrders 5 (wsOf yX5_tryOrders cX5_tryOrders 5 none) RX5 w none "tryOrders") {v0 : Nat} {v1 : Nat} {v2 : Nat} {v3 : Int32} {x1 : Nat} {Q : State → Prop} (h1 : kd S v2 = 3) (h2 : gP S 130 v2 = some x1) (h3 : kd S x1 = 21) (h4 : vp_in v3 (ln S x1)) (kt : ((rI S x1) v3.toNatClampNeg) < 200 → K p l e rX5_tryOrders s m args below meth c 5 w 0 0 Q S 52 [(0, .ref v0), (1, .ref v1), (2, .ref v2), (3, .int v3), (4, .int ((rI S x1) v3.toNatClampNeg))] []) (kf : ¬ ((rI S x1) v3.toNatClampNeg) < 200 → K p l e rX5_tryOrders s m args below meth c 5 w 0 0 Q S 38 [(0, .ref v0), (1, .ref v1), (2, .ref v2), (3, .int v3), (4, .int ((rI S x1) v3.toNatClampNeg))] []) : K p l e rX5_tryOrders s m args below meth c 5 w 0 0 Q S 22 [(0, .ref v0), (1, .ref v1), (2, .ref v2), (3, .int v3)] [] := by
  refine k_aload_n B 2 rfl rfl dX5_tryOrders_22 ?_
  refine k_getP (f := 130) (r := gP S 130 v2) B 2 2 rfl (by decide) rfl (by decide) rfl rfl (fun w h => in_of (uw_2 w h)) (in_of qfRX5_122) dX5_tryOrders_23 h1 rfl ?_
  rw [h2]; change K _ _ _ _ _ _ _ _ _ _ _ _ _ _ _ _ _ _ (.ref x1 :: _)
  refine k_iload_n B 3 rfl rfl dX5_tryOrders_26 ?_
  refine k_iald (v := (rI S x1) v3.toNatClampNeg) B dX5_tryOrders_27 h3 h4 rfl ?_
  refine k_istore (lst' := [(4, .int ((rI S x1) v3.toNatClampNeg)), (0, .ref v0), (1, .ref v1), (2, .ref v2), (3, .int v3)]) B (by decide) rfl dX5_tryOrders_28 ?_
  refine k_iload B 0 rfl dX5_tryOrders_30 ?_
  refine k_sipush (v := 200) B (by decide) dX5_tryOrders_32 ?_
  refine k_icmp_lt (tgt := 52) B dX5_tryOrders_35 (by decide) (fun c => ?_) (fun c => ?_)
  · refine k_sub [1, 2, 3, 4, 0] rfl ?_
    exact kt c
  · refine k_sub [1, 2, 3, 4, 0] rfl ?_
    exact kf c
theorem bX5_tryOrders_38 (B : Bd p s m args meth c cX5_tryOrders 5 (wsOf yX5_tryOrders cX5_tryOrders 5 none) RX5 w none "tryOrders") {v0 : Nat} {v1 : Nat} {v2 : Nat} {v3 : Int32} {v4 : Int32} {post : St → Prop} {Q : State → Prop} (hc : ConV l yX5_tryNeighbour (wsOf yX5_tryNeighbour cX5_tryNeighbour 4 none) rX5_tryNeighbour w S [.ref v0, .ref v1, .int (v4 - 200)] post) (h1 : kd S v0 = 7) (kk : ∀ (S' : St), post S' → K p l e rX5_tryOrders s m args below meth c 5 w 0 0 Q S' 49 [(0, .ref v0), (1, .ref v1), (2, .ref v2), (3, .int v3)] []) : K p l e rX5_tryOrders s m args below meth c 5 w 0 0 Q S 38 [(0, .ref v0), (1, .ref v1), (2, .ref v2), (3, .int v3), (4, .int v4)] [] := by
  refine k_aload_n B 0 rfl rfl dX5_tryOrders_38 ?_
  refine k_aload_n B 1 rfl rfl dX5_tryOrders_39 ?_
  refine k_iload B 4 rfl dX5_tryOrders_40 ?_
  refine k_sipush (v := 200) B (by decide) dX5_tryOrders_42 ?_
  refine k_isub B dX5_tryOrders_45 ?_
  refine callV_V (st := []) B [.ref v1, .int (v4 - 200)] (hc) (cwV 2 B.1.2.2.2.2 (gV qlRX5_126 qiX5_tryNeighbour qeX5_tryNeighbour qzRX5 qcX5_tryNeighbour) rfl rfl rfl (by decide +kernel) ⟨Nat.le_of_ble_eq_true rfl, Nat.le_of_ble_eq_true rfl⟩) rfl rfl (by decide) h1 (Nat.le_of_ble_eq_true rfl) rfl dX5_tryOrders_46 ⟨Nat.le_of_ble_eq_true rfl, Nat.le_of_ble_eq_true rfl⟩ (fun S' hp => ?_)
  refine k_sub [0, 1, 2, 3] rfl ?_
  exact kk S' hp
theorem bX5_tryOrders_49 (B : Bd p s m args meth c cX5_tryOrders 5 (wsOf yX5_tryOrders cX5_tryOrders 5 none) RX5 w none "tryOrders") {v0 : Nat} {v1 : Nat} {v2 : Nat} {v3 : Int32} {Q : State → Prop}  (kk : K p l e rX5_tryOrders s m args below meth c 5 w 0 0 Q S 62 [(0, .ref v0), (1, .ref v1), (2, .ref v2), (3, .int v3)] []) : K p l e rX5_tryOrders s m args below meth c 5 w 0 0 Q S 49 [(0, .ref v0), (1, .ref v1), (2, .ref v2), (3, .int v3)] [] := by
  refine k_goto (tgt := 62) B dX5_tryOrders_49 (by decide) ?_
  exact kk
theorem bX5_tryOrders_52 (B : Bd p s m args meth c cX5_tryOrders 5 (wsOf yX5_tryOrders cX5_tryOrders 5 none) RX5 w none "tryOrders") {v0 : Nat} {v1 : Nat} {v2 : Nat} {v3 : Int32} {v4 : Int32} {post : St → Prop} {Q : State → Prop} (hc : ConV l yX5_tryLocker (wsOf yX5_tryLocker cX5_tryLocker 6 none) rX5_tryLocker w S [.ref v0, .ref v1, .int (v4 - 100)] post) (h1 : kd S v0 = 7) (kk : ∀ (S' : St), post S' → K p l e rX5_tryOrders s m args below meth c 5 w 0 0 Q S' 62 [(0, .ref v0), (1, .ref v1), (2, .ref v2), (3, .int v3)] []) : K p l e rX5_tryOrders s m args below meth c 5 w 0 0 Q S 52 [(0, .ref v0), (1, .ref v1), (2, .ref v2), (3, .int v3), (4, .int v4)] [] := by
  refine k_aload_n B 0 rfl rfl dX5_tryOrders_52 ?_
  refine k_aload_n B 1 rfl rfl dX5_tryOrders_53 ?_
  refine k_iload B 4 rfl dX5_tryOrders_54 ?_
  refine k_bipush (v := 100) B (by decide) dX5_tryOrders_56 ?_
  refine k_isub B dX5_tryOrders_58 ?_
  refine callV_V (st := []) B [.ref v1, .int (v4 - 100)] (hc) (cwV 2 B.1.2.2.2.2 (gV qlRX5_130 qiX5_tryLocker qeX5_tryLocker qzRX5 qcX5_tryLocker) rfl rfl rfl (by decide +kernel) ⟨Nat.le_of_ble_eq_true rfl, Nat.le_of_ble_eq_true rfl⟩) rfl rfl (by decide) h1 (Nat.le_of_ble_eq_true rfl) rfl dX5_tryOrders_59 ⟨Nat.le_of_ble_eq_true rfl, Nat.le_of_ble_eq_true rfl⟩ (fun S' hp => ?_)
  refine k_sub [0, 1, 2, 3] rfl ?_
  exact kk S' hp
theorem bX5_tryOrders_62 (B : Bd p s m args meth c cX5_tryOrders 5 (wsOf yX5_tryOrders cX5_tryOrders 5 none) RX5 w none "tryOrders") {v0 : Nat} {v1 : Nat} {v2 : Nat} {v3 : Int32} {Q : State → Prop}  (kk : K p l e rX5_tryOrders s m args below meth c 5 w 0 0 Q S 7 [(0, .ref v0), (1, .ref v1), (2, .ref v2), (3, .int (v3 + 1))] []) : K p l e rX5_tryOrders s m args below meth c 5 w 0 0 Q S 62 [(0, .ref v0), (1, .ref v1), (2, .ref v2), (3, .int v3)] [] := by
  refine k_iinc (v := v3 + 1) (lst' := [(3, .int (v3 + 1)), (0, .ref v0), (1, .ref v1), (2, .ref v2)]) B 3 rfl rfl (by decide) rfl dX5_tryOrders_62 ?_
  refine k_goto (tgt := 7) B dX5_tryOrders_65 (by decide) ?_
  refine k_sub [1, 2, 3, 0] rfl ?_
  exact kk
theorem bX5_tryOrders_68 (B : Bd p s m args meth c cX5_tryOrders 5 (wsOf yX5_tryOrders cX5_tryOrders 5 none) RX5 w none "tryOrders") {post : St → Prop}  (hq : post S) : K p l e rX5_tryOrders s m args below meth c 5 w 0 0 (MQ below (va_Qv post (fun S' t => Hd w S' t.heap) (wA w)) args s 0 0 (wA w)) S 68 [] [] := by
  exact ret_V B rfl dX5_tryOrders_68 (hq)
theorem bX5_tryLocker_0 (B : Bd p s m args meth c cX5_tryLocker 6 (wsOf yX5_tryLocker cX5_tryLocker 6 none) RX5 w none "tryLocker") {v0 : Nat} {v1 : Nat} {v2 : Int32} {x1 : Nat} {post : Nat → St → Prop} {Q : State → Prop} (h1 : kd S v0 = 7) (h2 : gP S 386 v0 = some x1) (hc : ConR l yJx4a65c_get_915e3 (wsOf yJx4a65c_get_915e3 cJx4a65c_get_915e3 2 (some (.object "java/lang/Object"))) rJx4a65c_get_915e3 w S [.ref x1, .int v2] post) (h3 : kd S x1 = 1) (kk : ∀ (r : Nat) (S' : St), post r S' → K p l e rX5_tryLocker s m args below meth c 6 w 0 0 Q S' 8 [(0, .ref v0), (1, .ref v1), (2, .int v2)] [.ref r]) : K p l e rX5_tryLocker s m args below meth c 6 w 0 0 Q S 0 [(0, .ref v0), (1, .ref v1), (2, .int v2)] [] := by
  refine k_aload_n B 0 rfl rfl dX5_tryLocker_0 ?_
  refine k_getP (f := 386) (r := gP S 386 v0) B 6 2 rfl (by decide) rfl (by decide) rfl rfl (fun w h => in_of (uw_6 w h)) (in_of qfRX5_26) dX5_tryLocker_1 h1 rfl ?_
  rw [h2]; change K _ _ _ _ _ _ _ _ _ _ _ _ _ _ _ _ _ _ (.ref x1 :: _)
  refine k_iload_n B 2 rfl rfl dX5_tryLocker_4 ?_
  refine callV_R (st := []) B [.int v2] (hc) (cwV 1 B.1.2.2.2.2 (gV qlRX5_133 qiJx4a65c_get_915e3 qeJx4a65c_get_915e3 qzRJx4a65c qcJx4a65c_get_915e3) rfl rfl rfl (by decide +kernel) ⟨Nat.le_of_ble_eq_true rfl, Nat.le_of_ble_eq_true rfl⟩) rfl rfl (by decide) h3 (Nat.le_of_ble_eq_true rfl) rfl dX5_tryLocker_5 ⟨Nat.le_of_ble_eq_true rfl, Nat.le_of_ble_eq_true rfl⟩ (fun r S' hp => ?_)
  exact kk r S' hp
theorem bX5_tryLocker_8 (B : Bd p s m args meth c cX5_tryLocker 6 (wsOf yX5_tryLocker cX5_tryLocker 6 none) RX5 w none "tryLocker") {v0 : Nat} {v1 : Nat} {v2 : Int32} {t0 : Nat} {post : Int32 → St → Prop} {Q : State → Prop} (h1 : kd S t0 = 4) (h2 : kd S v1 = 5) (hc : ConI l yX2_boxFor (wsOf yX2_boxFor cX2_boxFor 3 (some .int)) rX2_boxFor w S [.ref t0, .int (gI S 258 v1)] post) (kk : ∀ (r : Int32) (S' : St), post r S' → K p l e rX5_tryLocker s m args below meth c 6 w 0 0 Q S' 20 [(0, .ref v0), (1, .ref v1), (2, .int v2), (3, .ref t0)] [.int r]) : K p l e rX5_tryLocker s m args below meth c 6 w 0 0 Q S 8 [(0, .ref v0), (1, .ref v1), (2, .int v2)] [.ref t0] := by
  refine k_cast B 3 rfl (by decide) (in_of qkRX5_139) dX5_tryLocker_8 h1 ?_
  refine k_astore_n (lst' := [(3, .ref t0), (0, .ref v0), (1, .ref v1), (2, .int v2)]) B rfl (by decide) rfl dX5_tryLocker_11 ?_
  refine k_aload_n B 0 rfl rfl dX5_tryLocker_12 ?_
  refine k_aload_n B 2 rfl rfl dX5_tryLocker_13 ?_
  refine k_getI (f := 258) (v := gI S 258 v1) B 4 2 rfl (by decide) rfl (by decide) rfl rfl (fun w h => in_of (uw_4 w h)) (in_of qfRX5_141) dX5_tryLocker_14 h2 rfl ?_
  refine callV_I (st := []) B [.int (gI S 258 v1)] (hc) (cwV 1 B.1.2.2.2.2 (gV qlRX5_144 qiX2_boxFor qeX2_boxFor qzRX2 qcX2_boxFor) rfl rfl rfl (by decide +kernel) ⟨Nat.le_of_ble_eq_true rfl, Nat.le_of_ble_eq_true rfl⟩) rfl rfl (by decide) h1 (Nat.le_of_ble_eq_true rfl) rfl dX5_tryLocker_17 ⟨Nat.le_of_ble_eq_true rfl, Nat.le_of_ble_eq_true rfl⟩ (fun r S' hp => ?_)
  refine k_sub [1, 2, 3, 0] rfl ?_
  exact kk r S' hp
theorem bX5_tryLocker_20 (B : Bd p s m args meth c cX5_tryLocker 6 (wsOf yX5_tryLocker cX5_tryLocker 6 none) RX5 w none "tryLocker") {v0 : Nat} {v1 : Nat} {v2 : Int32} {v3 : Nat} {t0 : Int32} {x1 : Nat} {x2 : Nat} {x3 : Nat} {post : Int32 → St → Prop} {Q : State → Prop} (h1 : kd S v3 = 4) (h2 : gP S 192 v3 = some x1) (h3 : kd S v1 = 5) (h4 : gP S 260 v1 = some x2) (h5 : kd S x2 = 3) (h6 : gP S 128 x2 = some x3) (hc : ConI l yX4_distanceTo (wsOf yX4_distanceTo cX4_distanceTo 4 (some .int)) rX4_distanceTo w S [.ref x1, .ref x3] post) (h7 : kd S x1 = 6) (kk : ∀ (r : Int32) (S' : St), post r S' → K p l e rX5_tryLocker s m args below meth c 6 w 0 0 Q S' 36 [(0, .ref v0), (1, .ref v1), (2, .int v2), (3, .ref v3), (4, .int t0)] [.int r]) : K p l e rX5_tryLocker s m args below meth c 6 w 0 0 Q S 20 [(0, .ref v0), (1, .ref v1), (2, .int v2), (3, .ref v3)] [.int t0] := by
  refine k_istore (lst' := [(4, .int t0), (0, .ref v0), (1, .ref v1), (2, .int v2), (3, .ref v3)]) B (by decide) rfl dX5_tryLocker_20 ?_
  refine k_aload_n B 4 rfl rfl dX5_tryLocker_22 ?_
  refine k_getP (f := 192) (r := gP S 192 v3) B 3 0 rfl (by decide) rfl (by decide) rfl rfl (fun w h => in_of (uw_3 w h)) (in_of qfRX5_148) dX5_tryLocker_23 h1 rfl ?_
  rw [h2]; change K _ _ _ _ _ _ _ _ _ _ _ _ _ _ _ _ _ _ (.ref x1 :: _)
  refine k_aload_n B 2 rfl rfl dX5_tryLocker_26 ?_
  refine k_getP (f := 260) (r := gP S 260 v1) B 4 4 rfl (by decide) rfl (by decide) rfl rfl (fun w h => in_of (uw_4 w h)) (in_of qfRX5_94) dX5_tryLocker_27 h3 rfl ?_
  rw [h4]; change K _ _ _ _ _ _ _ _ _ _ _ _ _ _ _ _ _ _ (.ref x2 :: _)
  refine k_getP (f := 128) (r := gP S 128 x2) B 2 0 rfl (by decide) rfl (by decide) rfl rfl (fun w h => in_of (uw_2 w h)) (in_of qfRX5_98) dX5_tryLocker_30 h5 rfl ?_
  rw [h6]; change K _ _ _ _ _ _ _ _ _ _ _ _ _ _ _ _ _ _ (.ref x3 :: _)
  refine callV_I (st := []) B [.ref x3] (hc) (cwV 1 B.1.2.2.2.2 (gV qlRX5_149 qiX4_distanceTo qeX4_distanceTo qzRX4 qcX4_distanceTo) rfl rfl rfl (by decide +kernel) ⟨Nat.le_of_ble_eq_true rfl, Nat.le_of_ble_eq_true rfl⟩) rfl rfl (by decide) h7 (Nat.le_of_ble_eq_true rfl) rfl dX5_tryLocker_33 ⟨Nat.le_of_ble_eq_true rfl, Nat.le_of_ble_eq_true rfl⟩ (fun r S' hp => ?_)
  refine k_sub [1, 2, 3, 4, 0] rfl ?_
  exact kk r S' hp
theorem bX5_tryLocker_36 (B : Bd p s m args meth c cX5_tryLocker 6 (wsOf yX5_tryLocker cX5_tryLocker 6 none) RX5 w none "tryLocker") {v0 : Nat} {v1 : Nat} {v2 : Int32} {v3 : Nat} {v4 : Int32} {t0 : Int32} {Q : State → Prop}  (kt : t0 ≤ 15 → K p l e rX5_tryLocker s m args below meth c 6 w 0 0 Q S 45 [(0, .ref v0), (1, .ref v1), (2, .int v2), (3, .ref v3), (4, .int v4)] []) (kf : ¬ t0 ≤ 15 → K p l e rX5_tryLocker s m args below meth c 6 w 0 0 Q S 41 [(0, .ref v0), (1, .ref v1), (2, .int v2), (3, .ref v3), (4, .int v4)] []) : K p l e rX5_tryLocker s m args below meth c 6 w 0 0 Q S 36 [(0, .ref v0), (1, .ref v1), (2, .int v2), (3, .ref v3), (4, .int v4)] [.int t0] := by
  refine k_bipush (v := 15) B (by decide) dX5_tryLocker_36 ?_
  refine k_icmp_le (tgt := 45) B dX5_tryLocker_38 (by decide) (fun c => ?_) (fun c => ?_)
  · exact kt c
  · exact kf c
theorem bX5_tryLocker_41 (B : Bd p s m args meth c cX5_tryLocker 6 (wsOf yX5_tryLocker cX5_tryLocker 6 none) RX5 w none "tryLocker") {v0 : Nat} {v1 : Nat} {v2 : Int32} {v3 : Nat} {v4 : Int32} {Q : State → Prop}  (kk : K p l e rX5_tryLocker s m args below meth c 6 w 0 0 Q S 46 [(0, .ref v0), (1, .ref v1), (2, .int v2), (3, .ref v3), (4, .int v4)] [.int 1]) : K p l e rX5_tryLocker s m args below meth c 6 w 0 0 Q S 41 [(0, .ref v0), (1, .ref v1), (2, .int v2), (3, .ref v3), (4, .int v4)] [] := by
  refine k_iconst (v := 1) B (by decide) dX5_tryLocker_41 ?_
  refine k_goto (tgt := 46) B dX5_tryLocker_42 (by decide) ?_
  exact kk
theorem bX5_tryLocker_45 (B : Bd p s m args meth c cX5_tryLocker 6 (wsOf yX5_tryLocker cX5_tryLocker 6 none) RX5 w none "tryLocker") {v0 : Nat} {v1 : Nat} {v2 : Int32} {v3 : Nat} {v4 : Int32} {Q : State → Prop}  (kk : K p l e rX5_tryLocker s m args below meth c 6 w 0 0 Q S 46 [(0, .ref v0), (1, .ref v1), (2, .int v2), (3, .ref v3), (4, .int v4)] [.int 0]) : K p l e rX5_tryLocker s m args below meth c 6 w 0 0 Q S 45 [(0, .ref v0), (1, .ref v1), (2, .int v2), (3, .ref v3), (4, .int v4)] [] := by
  refine k_iconst (v := 0) B (by decide) dX5_tryLocker_45 ?_
  exact kk
theorem bX5_tryLocker_46 (B : Bd p s m args meth c cX5_tryLocker 6 (wsOf yX5_tryLocker cX5_tryLocker 6 none) RX5 w none "tryLocker") {v0 : Nat} {v1 : Nat} {v2 : Int32} {v3 : Nat} {v4 : Int32} {t0 : Int32} {Q : State → Prop} (h1 : kd S v1 = 5) (kt : (gI S 257 v1) = 1 → K p l e rX5_tryLocker s m args below meth c 6 w 0 0 Q S 66 [] []) (kf : ¬ (gI S 257 v1) = 1 → K p l e rX5_tryLocker s m args below meth c 6 w 0 0 Q S 56 [(0, .ref v0), (1, .ref v1), (2, .int v2), (3, .ref v3), (4, .int v4), (5, .int t0)] []) : K p l e rX5_tryLocker s m args below meth c 6 w 0 0 Q S 46 [(0, .ref v0), (1, .ref v1), (2, .int v2), (3, .ref v3), (4, .int v4)] [.int t0] := by
  refine k_istore (lst' := [(5, .int t0), (0, .ref v0), (1, .ref v1), (2, .int v2), (3, .ref v3), (4, .int v4)]) B (by decide) rfl dX5_tryLocker_46 ?_
  refine k_aload_n B 2 rfl rfl dX5_tryLocker_48 ?_
  refine k_getI (f := 257) (v := gI S 257 v1) B 4 1 rfl (by decide) rfl (by decide) rfl rfl (fun w h => in_of (uw_4 w h)) (in_of qfRX5_75) dX5_tryLocker_49 h1 rfl ?_
  refine k_iconst (v := 1) B (by decide) dX5_tryLocker_52 ?_
  refine k_icmp_eq (tgt := 66) B dX5_tryLocker_53 (by decide) (fun c => ?_) (fun c => ?_)
  · refine k_sub [] rfl ?_
    exact kt c
  · refine k_sub [1, 2, 3, 4, 5, 0] rfl ?_
    exact kf c
theorem bX5_tryLocker_56 (B : Bd p s m args meth c cX5_tryLocker 6 (wsOf yX5_tryLocker cX5_tryLocker 6 none) RX5 w none "tryLocker") {v0 : Nat} {v1 : Nat} {v2 : Int32} {v3 : Nat} {v4 : Int32} {v5 : Int32} {Q : State → Prop}  (kt : ¬ v5 = 0 → K p l e rX5_tryLocker s m args below meth c 6 w 0 0 Q S 66 [] []) (kf : v5 = 0 → K p l e rX5_tryLocker s m args below meth c 6 w 0 0 Q S 61 [(0, .ref v0), (1, .ref v1), (2, .int v2), (3, .ref v3), (4, .int v4)] []) : K p l e rX5_tryLocker s m args below meth c 6 w 0 0 Q S 56 [(0, .ref v0), (1, .ref v1), (2, .int v2), (3, .ref v3), (4, .int v4), (5, .int v5)] [] := by
  refine k_iload B 5 rfl dX5_tryLocker_56 ?_
  refine k_if_ne (tgt := 66) B dX5_tryLocker_58 (by decide) (fun c => ?_) (fun c => ?_)
  · refine k_sub [] rfl ?_
    exact kt c
  · refine k_sub [0, 1, 2, 3, 4] rfl ?_
    exact kf c
theorem bX5_tryLocker_61 (B : Bd p s m args meth c cX5_tryLocker 6 (wsOf yX5_tryLocker cX5_tryLocker 6 none) RX5 w none "tryLocker") {v0 : Nat} {v1 : Nat} {v2 : Int32} {v3 : Nat} {v4 : Int32} {Q : State → Prop}  (kt : 0 ≤ v4 → K p l e rX5_tryLocker s m args below meth c 6 w 0 0 Q S 67 [(0, .ref v0), (1, .ref v1), (2, .int v2), (3, .ref v3), (4, .int v4)] []) (kf : ¬ 0 ≤ v4 → K p l e rX5_tryLocker s m args below meth c 6 w 0 0 Q S 66 [] []) : K p l e rX5_tryLocker s m args below meth c 6 w 0 0 Q S 61 [(0, .ref v0), (1, .ref v1), (2, .int v2), (3, .ref v3), (4, .int v4)] [] := by
  refine k_iload B 4 rfl dX5_tryLocker_61 ?_
  refine k_if_ge (tgt := 67) B dX5_tryLocker_63 (by decide) (fun c => ?_) (fun c => ?_)
  · exact kt c
  · refine k_sub [] rfl ?_
    exact kf c
theorem bX5_tryLocker_66 (B : Bd p s m args meth c cX5_tryLocker 6 (wsOf yX5_tryLocker cX5_tryLocker 6 none) RX5 w none "tryLocker") {post : St → Prop}  (hq : post S) : K p l e rX5_tryLocker s m args below meth c 6 w 0 0 (MQ below (va_Qv post (fun S' t => Hd w S' t.heap) (wA w)) args s 0 0 (wA w)) S 66 [] [] := by
  exact ret_V B rfl dX5_tryLocker_66 (hq)
theorem bX5_tryLocker_67 (B : Bd p s m args meth c cX5_tryLocker 6 (wsOf yX5_tryLocker cX5_tryLocker 6 none) RX5 w none "tryLocker") {v0 : Nat} {v1 : Nat} {v2 : Int32} {v3 : Nat} {v4 : Int32} {x1 : Nat} {x2 : Nat} {post : St → Prop} {Q : State → Prop} (h1 : kd S v0 = 7) (h2 : gP S 387 v0 = some x1) (h3 : kd S v3 = 4) (h4 : gP S 192 v3 = some x2) (hc : ConV l yX9_goStraight (wsOf yX9_goStraight cX9_goStraight 2 none) rX9_goStraight w S [.ref x1, .ref x2] post) (h5 : kd S x1 = 11) (kk : ∀ (S' : St), post S' → K p l e rX5_tryLocker s m args below meth c 6 w 0 0 Q S' 78 [(0, .ref v0), (1, .ref v1), (2, .int v2), (3, .ref v3), (4, .int v4)] []) : K p l e rX5_tryLocker s m args below meth c 6 w 0 0 Q S 67 [(0, .ref v0), (1, .ref v1), (2, .int v2), (3, .ref v3), (4, .int v4)] [] := by
  refine k_aload_n B 0 rfl rfl dX5_tryLocker_67 ?_
  refine k_getP (f := 387) (r := gP S 387 v0) B 6 3 rfl (by decide) rfl (by decide) rfl rfl (fun w h => in_of (uw_6 w h)) (in_of qfRX5_34) dX5_tryLocker_68 h1 rfl ?_
  rw [h2]; change K _ _ _ _ _ _ _ _ _ _ _ _ _ _ _ _ _ _ (.ref x1 :: _)
  refine k_aload_n B 3 rfl rfl dX5_tryLocker_71 ?_
  refine k_getP (f := 192) (r := gP S 192 v3) B 3 0 rfl (by decide) rfl (by decide) rfl rfl (fun w h => in_of (uw_3 w h)) (in_of qfRX5_148) dX5_tryLocker_72 h3 rfl ?_
  rw [h4]; change K _ _ _ _ _ _ _ _ _ _ _ _ _ _ _ _ _ _ (.ref x2 :: _)
  refine callV_V (st := []) B [.ref x2] (hc) (cwV 1 B.1.2.2.2.2 (gV qlRX5_155 qiX9_goStraight qeX9_goStraight qzRX9 qcX9_goStraight) rfl rfl rfl (by decide +kernel) ⟨Nat.le_of_ble_eq_true rfl, Nat.le_of_ble_eq_true rfl⟩) rfl rfl (by decide) h5 (Nat.le_of_ble_eq_true rfl) rfl dX5_tryLocker_75 ⟨Nat.le_of_ble_eq_true rfl, Nat.le_of_ble_eq_true rfl⟩ (fun S' hp => ?_)
  exact kk S' hp
theorem bX5_tryLocker_78 (B : Bd p s m args meth c cX5_tryLocker 6 (wsOf yX5_tryLocker cX5_tryLocker 6 none) RX5 w none "tryLocker") {v0 : Nat} {v1 : Nat} {v2 : Int32} {v3 : Nat} {v4 : Int32} {x1 : Nat} {post : St → Prop} {Q : State → Prop} (h1 : kd S v0 = 7) (h2 : gP S 387 v0 = some x1) (hc : ConV l yX9_stay (wsOf yX9_stay cX9_stay 2 none) rX9_stay w S [.ref x1, .int 2] post) (h3 : kd S x1 = 11) (kk : ∀ (S' : St), post S' → K p l e rX5_tryLocker s m args below meth c 6 w 0 0 Q S' 86 [(1, .ref v1), (2, .int v2), (3, .ref v3), (4, .int v4)] []) : K p l e rX5_tryLocker s m args below meth c 6 w 0 0 Q S 78 [(0, .ref v0), (1, .ref v1), (2, .int v2), (3, .ref v3), (4, .int v4)] [] := by
  refine k_aload_n B 0 rfl rfl dX5_tryLocker_78 ?_
  refine k_getP (f := 387) (r := gP S 387 v0) B 6 3 rfl (by decide) rfl (by decide) rfl rfl (fun w h => in_of (uw_6 w h)) (in_of qfRX5_34) dX5_tryLocker_79 h1 rfl ?_
  rw [h2]; change K _ _ _ _ _ _ _ _ _ _ _ _ _ _ _ _ _ _ (.ref x1 :: _)
  refine k_iconst (v := 2) B (by decide) dX5_tryLocker_82 ?_
  refine callV_V (st := []) B [.int 2] (hc) (cwV 1 B.1.2.2.2.2 (gV qlRX5_116 qiX9_stay qeX9_stay qzRX9 qcX9_stay) rfl rfl rfl (by decide +kernel) ⟨Nat.le_of_ble_eq_true rfl, Nat.le_of_ble_eq_true rfl⟩) rfl rfl (by decide) h3 (Nat.le_of_ble_eq_true rfl) rfl dX5_tryLocker_83 ⟨Nat.le_of_ble_eq_true rfl, Nat.le_of_ble_eq_true rfl⟩ (fun S' hp => ?_)
  refine k_sub [1, 2, 3, 4] rfl ?_
  exact kk S' hp
theorem bX5_tryLocker_86 (B : Bd p s m args meth c cX5_tryLocker 6 (wsOf yX5_tryLocker cX5_tryLocker 6 none) RX5 w none "tryLocker") {v1 : Nat} {v2 : Int32} {v3 : Nat} {v4 : Int32} {x1 : Nat} {post : St → Prop} (h1 : kd S v3 = 4) (h2 : gP S 193 v3 = some x1) (h3 : kd S x1 = 21) (h4 : vp_in v4 (ln S x1)) (h5 : kd S v1 = 5) (hq : post (sI (sI (sI (sRI S x1 (va_up (rI S x1) v4.toNatClampNeg (((rI S x1) v4.toNatClampNeg) - 1))) 265 v1 2) 266 v1 v2) 267 v1 v4)) : K p l e rX5_tryLocker s m args below meth c 6 w 0 0 (MQ below (va_Qv post (fun S' t => Hd w S' t.heap) (wA w)) args s 0 0 (wA w)) S 86 [(1, .ref v1), (2, .int v2), (3, .ref v3), (4, .int v4)] [] := by
  refine k_aload_n B 2 rfl rfl dX5_tryLocker_86 ?_
  refine k_getP (f := 193) (r := gP S 193 v3) B 3 1 rfl (by decide) rfl (by decide) rfl rfl (fun w h => in_of (uw_3 w h)) (in_of qfRX5_158) dX5_tryLocker_87 h1 rfl ?_
  rw [h2]; change K _ _ _ _ _ _ _ _ _ _ _ _ _ _ _ _ _ _ (.ref x1 :: _)
  refine k_iload B 3 rfl dX5_tryLocker_90 ?_
  refine k_dup2 B rfl rfl dX5_tryLocker_92 ?_
  refine k_iald (v := (rI S x1) v4.toNatClampNeg) B dX5_tryLocker_93 h3 h4 rfl ?_
  refine k_iconst (v := 1) B (by decide) dX5_tryLocker_94 ?_
  refine k_isub B dX5_tryLocker_95 ?_
  refine k_iast (g := rI S x1) (S' := sRI S x1 (va_up (rI S x1) v4.toNatClampNeg (((rI S x1) v4.toNatClampNeg) - 1))) B dX5_tryLocker_96 h3 h4 rfl rfl ?_
  refine k_aload_n B 0 rfl rfl dX5_tryLocker_97 ?_
  refine k_iconst (v := 2) B (by decide) dX5_tryLocker_98 ?_
  refine k_putI (f := 265) B 4 9 rfl (by decide) rfl (by decide) rfl rfl (fun w h => in_of (uw_4 w h)) (in_of qfRX5_70) tyX3 tyX3_ok nmX3 rfl (tyX3_ok 9 (by decide)) dX5_tryLocker_99 h5 ?_
  refine k_aload_n B 0 rfl rfl dX5_tryLocker_102 ?_
  refine k_iload_n B 1 rfl rfl dX5_tryLocker_103 ?_
  refine k_putI (f := 266) B 4 10 rfl (by decide) rfl (by decide) rfl rfl (fun w h => in_of (uw_4 w h)) (in_of qfRX5_161) tyX3 tyX3_ok nmX3 rfl (tyX3_ok 10 (by decide)) dX5_tryLocker_104 h5 ?_
  refine k_aload_n B 0 rfl rfl dX5_tryLocker_107 ?_
  refine k_iload B 3 rfl dX5_tryLocker_108 ?_
  refine k_putI (f := 267) B 4 11 rfl (by decide) rfl (by decide) rfl rfl (fun w h => in_of (uw_4 w h)) (in_of qfRX5_164) tyX3 tyX3_ok nmX3 rfl (tyX3_ok 11 (by decide)) dX5_tryLocker_110 h5 ?_
  exact ret_V B rfl dX5_tryLocker_113 (hq)
theorem bX5_tryNeighbour_0 (B : Bd p s m args meth c cX5_tryNeighbour 4 (wsOf yX5_tryNeighbour cX5_tryNeighbour 4 none) RX5 w none "tryNeighbour") {v0 : Nat} {v1 : Nat} {v2 : Int32} {x1 : Nat} {post : Nat → St → Prop} {Q : State → Prop} (h1 : kd S v0 = 7) (h2 : gP S 385 v0 = some x1) (hc : ConR l yJx4a65c_get_915e3 (wsOf yJx4a65c_get_915e3 cJx4a65c_get_915e3 2 (some (.object "java/lang/Object"))) rJx4a65c_get_915e3 w S [.ref x1, .int v2] post) (h3 : kd S x1 = 1) (kk : ∀ (r : Nat) (S' : St), post r S' → K p l e rX5_tryNeighbour s m args below meth c 4 w 0 0 Q S' 8 [(0, .ref v0), (1, .ref v1), (2, .int v2)] [.ref r]) : K p l e rX5_tryNeighbour s m args below meth c 4 w 0 0 Q S 0 [(0, .ref v0), (1, .ref v1), (2, .int v2)] [] := by
  refine k_aload_n B 0 rfl rfl dX5_tryNeighbour_0 ?_
  refine k_getP (f := 385) (r := gP S 385 v0) B 6 1 rfl (by decide) rfl (by decide) rfl rfl (fun w h => in_of (uw_6 w h)) (in_of qfRX5_22) dX5_tryNeighbour_1 h1 rfl ?_
  rw [h2]; change K _ _ _ _ _ _ _ _ _ _ _ _ _ _ _ _ _ _ (.ref x1 :: _)
  refine k_iload_n B 2 rfl rfl dX5_tryNeighbour_4 ?_
  refine callV_R (st := []) B [.int v2] (hc) (cwV 1 B.1.2.2.2.2 (gV qlRX5_133 qiJx4a65c_get_915e3 qeJx4a65c_get_915e3 qzRJx4a65c qcJx4a65c_get_915e3) rfl rfl rfl (by decide +kernel) ⟨Nat.le_of_ble_eq_true rfl, Nat.le_of_ble_eq_true rfl⟩) rfl rfl (by decide) h3 (Nat.le_of_ble_eq_true rfl) rfl dX5_tryNeighbour_5 ⟨Nat.le_of_ble_eq_true rfl, Nat.le_of_ble_eq_true rfl⟩ (fun r S' hp => ?_)
  exact kk r S' hp
theorem bX5_tryNeighbour_8 (B : Bd p s m args meth c cX5_tryNeighbour 4 (wsOf yX5_tryNeighbour cX5_tryNeighbour 4 none) RX5 w none "tryNeighbour") {v0 : Nat} {v1 : Nat} {v2 : Int32} {t0 : Nat} {x1 : Nat} {x2 : Nat} {x3 : Nat} {post : Int32 → St → Prop} {Q : State → Prop} (h1 : kd S t0 = 3) (h2 : gP S 128 t0 = some x1) (h3 : kd S v1 = 5) (h4 : gP S 260 v1 = some x2) (h5 : kd S x2 = 3) (h6 : gP S 128 x2 = some x3) (hc : ConI l yX4_distanceTo (wsOf yX4_distanceTo cX4_distanceTo 4 (some .int)) rX4_distanceTo w S [.ref x1, .ref x3] post) (h7 : kd S x1 = 6) (kk : ∀ (r : Int32) (S' : St), post r S' → K p l e rX5_tryNeighbour s m args below meth c 4 w 0 0 Q S' 26 [(0, .ref v0), (1, .ref v1), (2, .int v2), (3, .ref t0)] [.int r]) : K p l e rX5_tryNeighbour s m args below meth c 4 w 0 0 Q S 8 [(0, .ref v0), (1, .ref v1), (2, .int v2)] [.ref t0] := by
  refine k_cast B 2 rfl (by decide) (in_of qkRX5_99) dX5_tryNeighbour_8 h1 ?_
  refine k_astore_n (lst' := [(3, .ref t0), (0, .ref v0), (1, .ref v1), (2, .int v2)]) B rfl (by decide) rfl dX5_tryNeighbour_11 ?_
  refine k_aload_n B 0 rfl rfl dX5_tryNeighbour_12 ?_
  refine k_getP (f := 128) (r := gP S 128 t0) B 2 0 rfl (by decide) rfl (by decide) rfl rfl (fun w h => in_of (uw_2 w h)) (in_of qfRX5_98) dX5_tryNeighbour_13 h1 rfl ?_
  rw [h2]; change K _ _ _ _ _ _ _ _ _ _ _ _ _ _ _ _ _ _ (.ref x1 :: _)
  refine k_aload_n B 2 rfl rfl dX5_tryNeighbour_16 ?_
  refine k_getP (f := 260) (r := gP S 260 v1) B 4 4 rfl (by decide) rfl (by decide) rfl rfl (fun w h => in_of (uw_4 w h)) (in_of qfRX5_94) dX5_tryNeighbour_17 h3 rfl ?_
  rw [h4]; change K _ _ _ _ _ _ _ _ _ _ _ _ _ _ _ _ _ _ (.ref x2 :: _)
  refine k_getP (f := 128) (r := gP S 128 x2) B 2 0 rfl (by decide) rfl (by decide) rfl rfl (fun w h => in_of (uw_2 w h)) (in_of qfRX5_98) dX5_tryNeighbour_20 h5 rfl ?_
  rw [h6]; change K _ _ _ _ _ _ _ _ _ _ _ _ _ _ _ _ _ _ (.ref x3 :: _)
  refine callV_I (st := []) B [.ref x3] (hc) (cwV 1 B.1.2.2.2.2 (gV qlRX5_149 qiX4_distanceTo qeX4_distanceTo qzRX4 qcX4_distanceTo) rfl rfl rfl (by decide +kernel) ⟨Nat.le_of_ble_eq_true rfl, Nat.le_of_ble_eq_true rfl⟩) rfl rfl (by decide) h7 (Nat.le_of_ble_eq_true rfl) rfl dX5_tryNeighbour_23 ⟨Nat.le_of_ble_eq_true rfl, Nat.le_of_ble_eq_true rfl⟩ (fun r S' hp => ?_)
  refine k_sub [1, 2, 3, 0] rfl ?_
  exact kk r S' hp
theorem bX5_tryNeighbour_26 (B : Bd p s m args meth c cX5_tryNeighbour 4 (wsOf yX5_tryNeighbour cX5_tryNeighbour 4 none) RX5 w none "tryNeighbour") {v0 : Nat} {v1 : Nat} {v2 : Int32} {v3 : Nat} {t0 : Int32} {Q : State → Prop}  (kt : t0 ≤ 8 → K p l e rX5_tryNeighbour s m args below meth c 4 w 0 0 Q S 32 [(0, .ref v0), (1, .ref v1), (2, .int v2), (3, .ref v3)] []) (kf : ¬ t0 ≤ 8 → K p l e rX5_tryNeighbour s m args below meth c 4 w 0 0 Q S 31 [] []) : K p l e rX5_tryNeighbour s m args below meth c 4 w 0 0 Q S 26 [(0, .ref v0), (1, .ref v1), (2, .int v2), (3, .ref v3)] [.int t0] := by
  refine k_bipush (v := 8) B (by decide) dX5_tryNeighbour_26 ?_
  refine k_icmp_le (tgt := 32) B dX5_tryNeighbour_28 (by decide) (fun c => ?_) (fun c => ?_)
  · exact kt c
  · refine k_sub [] rfl ?_
    exact kf c
theorem bX5_tryNeighbour_31 (B : Bd p s m args meth c cX5_tryNeighbour 4 (wsOf yX5_tryNeighbour cX5_tryNeighbour 4 none) RX5 w none "tryNeighbour") {post : St → Prop}  (hq : post S) : K p l e rX5_tryNeighbour s m args below meth c 4 w 0 0 (MQ below (va_Qv post (fun S' t => Hd w S' t.heap) (wA w)) args s 0 0 (wA w)) S 31 [] [] := by
  exact ret_V B rfl dX5_tryNeighbour_31 (hq)
theorem bX5_tryNeighbour_32 (B : Bd p s m args meth c cX5_tryNeighbour 4 (wsOf yX5_tryNeighbour cX5_tryNeighbour 4 none) RX5 w none "tryNeighbour") {v0 : Nat} {v1 : Nat} {v2 : Int32} {v3 : Nat} {x1 : Nat} {x2 : Nat} {post : St → Prop} {Q : State → Prop} (h1 : kd S v0 = 7) (h2 : gP S 387 v0 = some x1) (h3 : kd S v3 = 3) (h4 : gP S 128 v3 = some x2) (hc : ConV l yX9_goStraight (wsOf yX9_goStraight cX9_goStraight 2 none) rX9_goStraight w S [.ref x1, .ref x2] post) (h5 : kd S x1 = 11) (kk : ∀ (S' : St), post S' → K p l e rX5_tryNeighbour s m args below meth c 4 w 0 0 Q S' 43 [(0, .ref v0), (1, .ref v1), (2, .int v2), (3, .ref v3)] []) : K p l e rX5_tryNeighbour s m args below meth c 4 w 0 0 Q S 32 [(0, .ref v0), (1, .ref v1), (2, .int v2), (3, .ref v3)] [] := by
  refine k_aload_n B 0 rfl rfl dX5_tryNeighbour_32 ?_
  refine k_getP (f := 387) (r := gP S 387 v0) B 6 3 rfl (by decide) rfl (by decide) rfl rfl (fun w h => in_of (uw_6 w h)) (in_of qfRX5_34) dX5_tryNeighbour_33 h1 rfl ?_
  rw [h2]; change K _ _ _ _ _ _ _ _ _ _ _ _ _ _ _ _ _ _ (.ref x1 :: _)
  refine k_aload_n B 3 rfl rfl dX5_tryNeighbour_36 ?_
  refine k_getP (f := 128) (r := gP S 128 v3) B 2 0 rfl (by decide) rfl (by decide) rfl rfl (fun w h => in_of (uw_2 w h)) (in_of qfRX5_98) dX5_tryNeighbour_37 h3 rfl ?_
  rw [h4]; change K _ _ _ _ _ _ _ _ _ _ _ _ _ _ _ _ _ _ (.ref x2 :: _)
  refine callV_V (st := []) B [.ref x2] (hc) (cwV 1 B.1.2.2.2.2 (gV qlRX5_155 qiX9_goStraight qeX9_goStraight qzRX9 qcX9_goStraight) rfl rfl rfl (by decide +kernel) ⟨Nat.le_of_ble_eq_true rfl, Nat.le_of_ble_eq_true rfl⟩) rfl rfl (by decide) h5 (Nat.le_of_ble_eq_true rfl) rfl dX5_tryNeighbour_40 ⟨Nat.le_of_ble_eq_true rfl, Nat.le_of_ble_eq_true rfl⟩ (fun S' hp => ?_)
  exact kk S' hp
theorem bX5_tryNeighbour_43 (B : Bd p s m args meth c cX5_tryNeighbour 4 (wsOf yX5_tryNeighbour cX5_tryNeighbour 4 none) RX5 w none "tryNeighbour") {v0 : Nat} {v1 : Nat} {v2 : Int32} {v3 : Nat} {x1 : Nat} {post : Int32 → St → Prop} {Q : State → Prop} (h1 : kd S v0 = 7) (h2 : gP S 387 v0 = some x1) (h3 : kd S x1 = 11) (hc : ConI l yX1_isSomebodyIn (wsOf yX1_isSomebodyIn cX1_isSomebodyIn 2 (some .boolean)) rX1_isSomebodyIn w S [.ref v3, .int (gI S 643 x1)] post) (h4 : kd S v3 = 3) (kk : ∀ (r : Int32) (S' : St), post r S' → K p l e rX5_tryNeighbour s m args below meth c 4 w 0 0 Q S' 54 [(0, .ref v0), (1, .ref v1), (2, .int v2)] [.int r]) : K p l e rX5_tryNeighbour s m args below meth c 4 w 0 0 Q S 43 [(0, .ref v0), (1, .ref v1), (2, .int v2), (3, .ref v3)] [] := by
  refine k_aload_n B 3 rfl rfl dX5_tryNeighbour_43 ?_
  refine k_aload_n B 0 rfl rfl dX5_tryNeighbour_44 ?_
  refine k_getP (f := 387) (r := gP S 387 v0) B 6 3 rfl (by decide) rfl (by decide) rfl rfl (fun w h => in_of (uw_6 w h)) (in_of qfRX5_34) dX5_tryNeighbour_45 h1 rfl ?_
  rw [h2]; change K _ _ _ _ _ _ _ _ _ _ _ _ _ _ _ _ _ _ (.ref x1 :: _)
  refine k_getI (f := 643) (v := gI S 643 x1) B 10 3 rfl (by decide) rfl (by decide) rfl rfl (fun w h => in_of (uw_10 w h)) (in_of qfRX5_56) dX5_tryNeighbour_48 h3 rfl ?_
  refine callV_I (st := []) B [.int (gI S 643 x1)] (hc) (cwV 1 B.1.2.2.2.2 (gV qlRX5_109 qiX1_isSomebodyIn qeX1_isSomebodyIn qzRX1 qcX1_isSomebodyIn) rfl rfl rfl (by decide +kernel) ⟨Nat.le_of_ble_eq_true rfl, Nat.le_of_ble_eq_true rfl⟩) rfl rfl (by decide) h4 (Nat.le_of_ble_eq_true rfl) rfl dX5_tryNeighbour_51 ⟨Nat.le_of_ble_eq_true rfl, Nat.le_of_ble_eq_true rfl⟩ (fun r S' hp => ?_)
  refine k_sub [0, 1, 2] rfl ?_
  exact kk r S' hp
theorem bX5_tryNeighbour_54 (B : Bd p s m args meth c cX5_tryNeighbour 4 (wsOf yX5_tryNeighbour cX5_tryNeighbour 4 none) RX5 w none "tryNeighbour") {v0 : Nat} {v1 : Nat} {v2 : Int32} {t0 : Int32} {Q : State → Prop}  (kt : t0 = 0 → K p l e rX5_tryNeighbour s m args below meth c 4 w 0 0 Q S 75 [] []) (kf : ¬ t0 = 0 → K p l e rX5_tryNeighbour s m args below meth c 4 w 0 0 Q S 57 [(0, .ref v0), (1, .ref v1), (2, .int v2)] []) : K p l e rX5_tryNeighbour s m args below meth c 4 w 0 0 Q S 54 [(0, .ref v0), (1, .ref v1), (2, .int v2)] [.int t0] := by
  refine k_if_eq (tgt := 75) B dX5_tryNeighbour_54 (by decide) (fun c => ?_) (fun c => ?_)
  · refine k_sub [] rfl ?_
    exact kt c
  · exact kf c
theorem bX5_tryNeighbour_57 (B : Bd p s m args meth c cX5_tryNeighbour 4 (wsOf yX5_tryNeighbour cX5_tryNeighbour 4 none) RX5 w none "tryNeighbour") {v0 : Nat} {v1 : Nat} {v2 : Int32} {x1 : Nat} {post : St → Prop} {Q : State → Prop} (h1 : kd S v0 = 7) (h2 : gP S 387 v0 = some x1) (hc : ConV l yX9_stay (wsOf yX9_stay cX9_stay 2 none) rX9_stay w S [.ref x1, .int 2] post) (h3 : kd S x1 = 11) (kk : ∀ (S' : St), post S' → K p l e rX5_tryNeighbour s m args below meth c 4 w 0 0 Q S' 65 [(1, .ref v1), (2, .int v2)] []) : K p l e rX5_tryNeighbour s m args below meth c 4 w 0 0 Q S 57 [(0, .ref v0), (1, .ref v1), (2, .int v2)] [] := by
  refine k_aload_n B 0 rfl rfl dX5_tryNeighbour_57 ?_
  refine k_getP (f := 387) (r := gP S 387 v0) B 6 3 rfl (by decide) rfl (by decide) rfl rfl (fun w h => in_of (uw_6 w h)) (in_of qfRX5_34) dX5_tryNeighbour_58 h1 rfl ?_
  rw [h2]; change K _ _ _ _ _ _ _ _ _ _ _ _ _ _ _ _ _ _ (.ref x1 :: _)
  refine k_iconst (v := 2) B (by decide) dX5_tryNeighbour_61 ?_
  refine callV_V (st := []) B [.int 2] (hc) (cwV 1 B.1.2.2.2.2 (gV qlRX5_116 qiX9_stay qeX9_stay qzRX9 qcX9_stay) rfl rfl rfl (by decide +kernel) ⟨Nat.le_of_ble_eq_true rfl, Nat.le_of_ble_eq_true rfl⟩) rfl rfl (by decide) h3 (Nat.le_of_ble_eq_true rfl) rfl dX5_tryNeighbour_62 ⟨Nat.le_of_ble_eq_true rfl, Nat.le_of_ble_eq_true rfl⟩ (fun S' hp => ?_)
  refine k_sub [1, 2] rfl ?_
  exact kk S' hp
theorem bX5_tryNeighbour_65 (B : Bd p s m args meth c cX5_tryNeighbour 4 (wsOf yX5_tryNeighbour cX5_tryNeighbour 4 none) RX5 w none "tryNeighbour") {v1 : Nat} {v2 : Int32} {Q : State → Prop} (h1 : kd S v1 = 5) (kk : K p l e rX5_tryNeighbour s m args below meth c 4 w 0 0 Q (sI (sI S 265 v1 3) 266 v1 v2) 75 [] []) : K p l e rX5_tryNeighbour s m args below meth c 4 w 0 0 Q S 65 [(1, .ref v1), (2, .int v2)] [] := by
  refine k_aload_n B 0 rfl rfl dX5_tryNeighbour_65 ?_
  refine k_iconst (v := 3) B (by decide) dX5_tryNeighbour_66 ?_
  refine k_putI (f := 265) B 4 9 rfl (by decide) rfl (by decide) rfl rfl (fun w h => in_of (uw_4 w h)) (in_of qfRX5_70) tyX3 tyX3_ok nmX3 rfl (tyX3_ok 9 (by decide)) dX5_tryNeighbour_67 h1 ?_
  refine k_aload_n B 0 rfl rfl dX5_tryNeighbour_70 ?_
  refine k_iload_n B 1 rfl rfl dX5_tryNeighbour_71 ?_
  refine k_putI (f := 266) B 4 10 rfl (by decide) rfl (by decide) rfl rfl (fun w h => in_of (uw_4 w h)) (in_of qfRX5_161) tyX3 tyX3_ok nmX3 rfl (tyX3_ok 10 (by decide)) dX5_tryNeighbour_72 h1 ?_
  refine k_sub [] rfl ?_
  exact kk
theorem bX5_tryNeighbour_75 (B : Bd p s m args meth c cX5_tryNeighbour 4 (wsOf yX5_tryNeighbour cX5_tryNeighbour 4 none) RX5 w none "tryNeighbour") {post : St → Prop}  (hq : post S) : K p l e rX5_tryNeighbour s m args below meth c 4 w 0 0 (MQ below (va_Qv post (fun S' t => Hd w S' t.heap) (wA w)) args s 0 0 (wA w)) S 75 [] [] := by
  exact ret_V B rfl dX5_tryNeighbour_75 (hq)
theorem bX5_endDay_0 (B : Bd p s m args meth c cX5_endDay 3 (wsOf yX5_endDay cX5_endDay 3 none) RX5 w none "endDay") {v0 : Nat} {v1 : Nat} {Q : State → Prop} (h1 : kd S v1 = 5) (kt : (gI S 265 v1) = 2 → K p l e rX5_endDay s m args below meth c 3 w 0 0 Q S 9 [(0, .ref v0), (1, .ref v1)] []) (kf : ¬ (gI S 265 v1) = 2 → K p l e rX5_endDay s m args below meth c 3 w 0 0 Q S 8 [] []) : K p l e rX5_endDay s m args below meth c 3 w 0 0 Q S 0 [(0, .ref v0), (1, .ref v1)] [] := by
  refine k_aload_n B 1 rfl rfl dX5_endDay_0 ?_
  refine k_getI (f := 265) (v := gI S 265 v1) B 4 9 rfl (by decide) rfl (by decide) rfl rfl (fun w h => in_of (uw_4 w h)) (in_of qfRX5_70) dX5_endDay_1 h1 rfl ?_
  refine k_iconst (v := 2) B (by decide) dX5_endDay_4 ?_
  refine k_icmp_eq (tgt := 9) B dX5_endDay_5 (by decide) (fun c => ?_) (fun c => ?_)
  · exact kt c
  · refine k_sub [] rfl ?_
    exact kf c
theorem bX5_endDay_8 (B : Bd p s m args meth c cX5_endDay 3 (wsOf yX5_endDay cX5_endDay 3 none) RX5 w none "endDay") {post : St → Prop}  (hq : post S) : K p l e rX5_endDay s m args below meth c 3 w 0 0 (MQ below (va_Qv post (fun S' t => Hd w S' t.heap) (wA w)) args s 0 0 (wA w)) S 8 [] [] := by
  exact ret_V B rfl dX5_endDay_8 (hq)
theorem bX5_endDay_9 (B : Bd p s m args meth c cX5_endDay 3 (wsOf yX5_endDay cX5_endDay 3 none) RX5 w none "endDay") {v0 : Nat} {v1 : Nat} {x1 : Nat} {post : Nat → St → Prop} {Q : State → Prop} (h1 : kd S v0 = 7) (h2 : gP S 386 v0 = some x1) (h3 : kd S v1 = 5) (hc : ConR l yJx4a65c_get_915e3 (wsOf yJx4a65c_get_915e3 cJx4a65c_get_915e3 2 (some (.object "java/lang/Object"))) rJx4a65c_get_915e3 w S [.ref x1, .int (gI S 266 v1)] post) (h4 : kd S x1 = 1) (kk : ∀ (r : Nat) (S' : St), post r S' → K p l e rX5_endDay s m args below meth c 3 w 0 0 Q S' 20 [(1, .ref v1)] [.ref r]) : K p l e rX5_endDay s m args below meth c 3 w 0 0 Q S 9 [(0, .ref v0), (1, .ref v1)] [] := by
  refine k_aload_n B 0 rfl rfl dX5_endDay_9 ?_
  refine k_getP (f := 386) (r := gP S 386 v0) B 6 2 rfl (by decide) rfl (by decide) rfl rfl (fun w h => in_of (uw_6 w h)) (in_of qfRX5_26) dX5_endDay_10 h1 rfl ?_
  rw [h2]; change K _ _ _ _ _ _ _ _ _ _ _ _ _ _ _ _ _ _ (.ref x1 :: _)
  refine k_aload_n B 1 rfl rfl dX5_endDay_13 ?_
  refine k_getI (f := 266) (v := gI S 266 v1) B 4 10 rfl (by decide) rfl (by decide) rfl rfl (fun w h => in_of (uw_4 w h)) (in_of qfRX5_161) dX5_endDay_14 h3 rfl ?_
  refine callV_R (st := []) B [.int (gI S 266 v1)] (hc) (cwV 1 B.1.2.2.2.2 (gV qlRX5_133 qiJx4a65c_get_915e3 qeJx4a65c_get_915e3 qzRJx4a65c qcJx4a65c_get_915e3) rfl rfl rfl (by decide +kernel) ⟨Nat.le_of_ble_eq_true rfl, Nat.le_of_ble_eq_true rfl⟩) rfl rfl (by decide) h4 (Nat.le_of_ble_eq_true rfl) rfl dX5_endDay_17 ⟨Nat.le_of_ble_eq_true rfl, Nat.le_of_ble_eq_true rfl⟩ (fun r S' hp => ?_)
  refine k_sub [1] rfl ?_
  exact kk r S' hp
theorem bX5_endDay_20 (B : Bd p s m args meth c cX5_endDay 3 (wsOf yX5_endDay cX5_endDay 3 none) RX5 w none "endDay") {v1 : Nat} {t0 : Nat} {x1 : Nat} {x2 : Nat} {x3 : Nat} {post : Int32 → St → Prop} {Q : State → Prop} (h1 : kd S t0 = 4) (h2 : kd S v1 = 5) (h3 : gP S 192 t0 = some x1) (h4 : gP S 260 v1 = some x2) (h5 : kd S x2 = 3) (h6 : gP S 128 x2 = some x3) (hc : ConI l yX4_distanceTo (wsOf yX4_distanceTo cX4_distanceTo 4 (some .int)) rX4_distanceTo w (sI S 268 v1 ((gI S 268 v1) + 1)) [.ref x1, .ref x3] post) (h7 : kd S x1 = 6) (kk : ∀ (r : Int32) (S' : St), post r S' → K p l e rX5_endDay s m args below meth c 3 w 0 0 Q S' 48 [(1, .ref v1), (2, .ref t0)] [.int r]) : K p l e rX5_endDay s m args below meth c 3 w 0 0 Q S 20 [(1, .ref v1)] [.ref t0] := by
  refine k_cast B 3 rfl (by decide) (in_of qkRX5_139) dX5_endDay_20 h1 ?_
  refine k_astore_n (lst' := [(2, .ref t0), (1, .ref v1)]) B rfl (by decide) rfl dX5_endDay_23 ?_
  refine k_aload_n B 1 rfl rfl dX5_endDay_24 ?_
  refine k_dup B rfl dX5_endDay_25 ?_
  refine k_getI (f := 268) (v := gI S 268 v1) B 4 12 rfl (by decide) rfl (by decide) rfl rfl (fun w h => in_of (uw_4 w h)) (in_of qfRX5_167) dX5_endDay_26 h2 rfl ?_
  refine k_iconst (v := 1) B (by decide) dX5_endDay_29 ?_
  refine k_iadd B dX5_endDay_30 ?_
  refine k_putI (f := 268) B 4 12 rfl (by decide) rfl (by decide) rfl rfl (fun w h => in_of (uw_4 w h)) (in_of qfRX5_167) tyX3 tyX3_ok nmX3 rfl (tyX3_ok 12 (by decide)) dX5_endDay_31 h2 ?_
  refine k_aload_n B 0 rfl rfl dX5_endDay_34 ?_
  refine k_getP (f := 192) (r := gP S 192 t0) B 3 0 rfl (by decide) rfl (by decide) rfl rfl (fun w h => in_of (uw_3 w h)) (in_of qfRX5_148) dX5_endDay_35 h1 rfl ?_
  rw [h3]; change K _ _ _ _ _ _ _ _ _ _ _ _ _ _ _ _ _ _ (.ref x1 :: _)
  refine k_aload_n B 1 rfl rfl dX5_endDay_38 ?_
  refine k_getP (f := 260) (r := gP S 260 v1) B 4 4 rfl (by decide) rfl (by decide) rfl rfl (fun w h => in_of (uw_4 w h)) (in_of qfRX5_94) dX5_endDay_39 h2 rfl ?_
  rw [h4]; change K _ _ _ _ _ _ _ _ _ _ _ _ _ _ _ _ _ _ (.ref x2 :: _)
  refine k_getP (f := 128) (r := gP S 128 x2) B 2 0 rfl (by decide) rfl (by decide) rfl rfl (fun w h => in_of (uw_2 w h)) (in_of qfRX5_98) dX5_endDay_42 h5 rfl ?_
  rw [h6]; change K _ _ _ _ _ _ _ _ _ _ _ _ _ _ _ _ _ _ (.ref x3 :: _)
  refine callV_I (st := []) B [.ref x3] (hc) (cwV 1 B.1.2.2.2.2 (gV qlRX5_149 qiX4_distanceTo qeX4_distanceTo qzRX4 qcX4_distanceTo) rfl rfl rfl (by decide +kernel) ⟨Nat.le_of_ble_eq_true rfl, Nat.le_of_ble_eq_true rfl⟩) rfl rfl (by decide) h7 (Nat.le_of_ble_eq_true rfl) rfl dX5_endDay_45 ⟨Nat.le_of_ble_eq_true rfl, Nat.le_of_ble_eq_true rfl⟩ (fun r S' hp => ?_)
  refine k_sub [1, 0] rfl ?_
  exact kk r S' hp
theorem bX5_endDay_48 (B : Bd p s m args meth c cX5_endDay 3 (wsOf yX5_endDay cX5_endDay 3 none) RX5 w none "endDay") {v1 : Nat} {v2 : Nat} {t0 : Int32} {Q : State → Prop}  (kt : 10 < t0 → K p l e rX5_endDay s m args below meth c 3 w 0 0 Q S 62 [(1, .ref v1), (2, .ref v2)] []) (kf : ¬ 10 < t0 → K p l e rX5_endDay s m args below meth c 3 w 0 0 Q S 53 [(1, .ref v1), (2, .ref v2)] []) : K p l e rX5_endDay s m args below meth c 3 w 0 0 Q S 48 [(1, .ref v1), (2, .ref v2)] [.int t0] := by
  refine k_bipush (v := 10) B (by decide) dX5_endDay_48 ?_
  refine k_icmp_gt (tgt := 62) B dX5_endDay_50 (by decide) (fun c => ?_) (fun c => ?_)
  · exact kt c
  · exact kf c
theorem bX5_endDay_53 (B : Bd p s m args meth c cX5_endDay 3 (wsOf yX5_endDay cX5_endDay 3 none) RX5 w none "endDay") {v1 : Nat} {v2 : Nat} {post : St → Prop} {Q : State → Prop} (hc : ConV l yX5_emptyBox (wsOf yX5_emptyBox cX5_emptyBox 3 none) rX5_emptyBox w S [.ref v1, .ref v2, .int 1] post) (kk : ∀ (S' : St), post S' → K p l e rX5_endDay s m args below meth c 3 w 0 0 Q S' 59 [] []) : K p l e rX5_endDay s m args below meth c 3 w 0 0 Q S 53 [(1, .ref v1), (2, .ref v2)] [] := by
  refine k_aload_n B 0 rfl rfl dX5_endDay_53 ?_
  refine k_aload_n B 1 rfl rfl dX5_endDay_54 ?_
  refine k_iconst (v := 1) B (by decide) dX5_endDay_55 ?_
  refine callS_V (st := []) B [.ref v1, .ref v2, .int 1] (hc) (va_cwS 3 B.1.2.2.2.2 (gS qlRX5_170 qsX5_emptyBox qzRX5 qcX5_emptyBox) rfl rfl rfl (by decide +kernel) ⟨Nat.le_of_ble_eq_true rfl, Nat.le_of_ble_eq_true rfl⟩) rfl (Nat.le_of_ble_eq_true rfl) rfl dX5_endDay_56 ⟨Nat.le_of_ble_eq_true rfl, Nat.le_of_ble_eq_true rfl⟩ (fun S' hp => ?_)
  refine k_sub [] rfl ?_
  exact kk S' hp
theorem bX5_endDay_59 (B : Bd p s m args meth c cX5_endDay 3 (wsOf yX5_endDay cX5_endDay 3 none) RX5 w none "endDay") {Q : State → Prop}  (kk : K p l e rX5_endDay s m args below meth c 3 w 0 0 Q S 76 [] []) : K p l e rX5_endDay s m args below meth c 3 w 0 0 Q S 59 [] [] := by
  refine k_goto (tgt := 76) B dX5_endDay_59 (by decide) ?_
  exact kk
theorem bX5_endDay_62 (B : Bd p s m args meth c cX5_endDay 3 (wsOf yX5_endDay cX5_endDay 3 none) RX5 w none "endDay") {v1 : Nat} {v2 : Nat} {Q : State → Prop} (h1 : kd S v1 = 5) (kt : (gI S 268 v1) < 3 → K p l e rX5_endDay s m args below meth c 3 w 0 0 Q S 76 [] []) (kf : ¬ (gI S 268 v1) < 3 → K p l e rX5_endDay s m args below meth c 3 w 0 0 Q S 70 [(1, .ref v1), (2, .ref v2)] []) : K p l e rX5_endDay s m args below meth c 3 w 0 0 Q S 62 [(1, .ref v1), (2, .ref v2)] [] := by
  refine k_aload_n B 0 rfl rfl dX5_endDay_62 ?_
  refine k_getI (f := 268) (v := gI S 268 v1) B 4 12 rfl (by decide) rfl (by decide) rfl rfl (fun w h => in_of (uw_4 w h)) (in_of qfRX5_167) dX5_endDay_63 h1 rfl ?_
  refine k_iconst (v := 3) B (by decide) dX5_endDay_66 ?_
  refine k_icmp_lt (tgt := 76) B dX5_endDay_67 (by decide) (fun c => ?_) (fun c => ?_)
  · refine k_sub [] rfl ?_
    exact kt c
  · exact kf c
theorem bX5_endDay_70 (B : Bd p s m args meth c cX5_endDay 3 (wsOf yX5_endDay cX5_endDay 3 none) RX5 w none "endDay") {v1 : Nat} {v2 : Nat} {post : St → Prop} {Q : State → Prop} (hc : ConV l yX5_emptyBox (wsOf yX5_emptyBox cX5_emptyBox 3 none) rX5_emptyBox w S [.ref v1, .ref v2, .int 4] post) (kk : ∀ (S' : St), post S' → K p l e rX5_endDay s m args below meth c 3 w 0 0 Q S' 76 [] []) : K p l e rX5_endDay s m args below meth c 3 w 0 0 Q S 70 [(1, .ref v1), (2, .ref v2)] [] := by
  refine k_aload_n B 0 rfl rfl dX5_endDay_70 ?_
  refine k_aload_n B 1 rfl rfl dX5_endDay_71 ?_
  refine k_iconst (v := 4) B (by decide) dX5_endDay_72 ?_
  refine callS_V (st := []) B [.ref v1, .ref v2, .int 4] (hc) (va_cwS 3 B.1.2.2.2.2 (gS qlRX5_170 qsX5_emptyBox qzRX5 qcX5_emptyBox) rfl rfl rfl (by decide +kernel) ⟨Nat.le_of_ble_eq_true rfl, Nat.le_of_ble_eq_true rfl⟩) rfl (Nat.le_of_ble_eq_true rfl) rfl dX5_endDay_73 ⟨Nat.le_of_ble_eq_true rfl, Nat.le_of_ble_eq_true rfl⟩ (fun S' hp => ?_)
  refine k_sub [] rfl ?_
  exact kk S' hp
theorem bX5_endDay_76 (B : Bd p s m args meth c cX5_endDay 3 (wsOf yX5_endDay cX5_endDay 3 none) RX5 w none "endDay") {post : St → Prop}  (hq : post S) : K p l e rX5_endDay s m args below meth c 3 w 0 0 (MQ below (va_Qv post (fun S' t => Hd w S' t.heap) (wA w)) args s 0 0 (wA w)) S 76 [] [] := by
  exact ret_V B rfl dX5_endDay_76 (hq)
theorem bX5_emptyBox_0 (B : Bd p s m args meth c cX5_emptyBox 3 (wsOf yX5_emptyBox cX5_emptyBox 3 none) RX5 w none "emptyBox") {v0 : Nat} {v1 : Nat} {v2 : Int32} {x1 : Nat} {post : St → Prop} (h1 : kd S v1 = 4) (h2 : gP S 193 v1 = some x1) (h3 : kd S v0 = 5) (h4 : kd S x1 = 21) (h5 : vp_in (gI S 267 v0) (ln S x1)) (hq : post (sI (sI (sRI S x1 (va_up (rI S x1) (gI S 267 v0).toNatClampNeg (((rI S x1) (gI S 267 v0).toNatClampNeg) + 1))) 265 v0 v2) 266 v0 (-1))) : K p l e rX5_emptyBox s m args below meth c 3 w 0 0 (MQ below (va_Qv post (fun S' t => Hd w S' t.heap) (wA w)) args s 0 0 (wA w)) S 0 [(0, .ref v0), (1, .ref v1), (2, .int v2)] [] := by
  refine k_aload_n B 1 rfl rfl dX5_emptyBox_0 ?_
  refine k_getP (f := 193) (r := gP S 193 v1) B 3 1 rfl (by decide) rfl (by decide) rfl rfl (fun w h => in_of (uw_3 w h)) (in_of qfRX5_158) dX5_emptyBox_1 h1 rfl ?_
  rw [h2]; change K _ _ _ _ _ _ _ _ _ _ _ _ _ _ _ _ _ _ (.ref x1 :: _)
  refine k_aload_n B 0 rfl rfl dX5_emptyBox_4 ?_
  refine k_getI (f := 267) (v := gI S 267 v0) B 4 11 rfl (by decide) rfl (by decide) rfl rfl (fun w h => in_of (uw_4 w h)) (in_of qfRX5_164) dX5_emptyBox_5 h3 rfl ?_
  refine k_dup2 B rfl rfl dX5_emptyBox_8 ?_
  refine k_iald (v := (rI S x1) (gI S 267 v0).toNatClampNeg) B dX5_emptyBox_9 h4 h5 rfl ?_
  refine k_iconst (v := 1) B (by decide) dX5_emptyBox_10 ?_
  refine k_iadd B dX5_emptyBox_11 ?_
  refine k_iast (g := rI S x1) (S' := sRI S x1 (va_up (rI S x1) (gI S 267 v0).toNatClampNeg (((rI S x1) (gI S 267 v0).toNatClampNeg) + 1))) B dX5_emptyBox_12 h4 h5 rfl rfl ?_
  refine k_aload_n B 0 rfl rfl dX5_emptyBox_13 ?_
  refine k_iload_n B 2 rfl rfl dX5_emptyBox_14 ?_
  refine k_putI (f := 265) B 4 9 rfl (by decide) rfl (by decide) rfl rfl (fun w h => in_of (uw_4 w h)) (in_of qfRX5_70) tyX3 tyX3_ok nmX3 rfl (tyX3_ok 9 (by decide)) dX5_emptyBox_15 h3 ?_
  refine k_aload_n B 0 rfl rfl dX5_emptyBox_18 ?_
  refine k_iconst (v := (-1)) B (by decide) dX5_emptyBox_19 ?_
  refine k_putI (f := 266) B 4 10 rfl (by decide) rfl (by decide) rfl rfl (fun w h => in_of (uw_4 w h)) (in_of qfRX5_161) tyX3 tyX3_ok nmX3 rfl (tyX3_ok 10 (by decide)) dX5_emptyBox_20 h3 ?_
  exact ret_V B rfl dX5_emptyBox_23 (hq)
theorem bX7_init_0 (B : Bd p s m args meth c cX7_init 2 (wsOf yX7_init cX7_init 2 none) RX7 w none "<init>") {v0 : Nat} {v1 : Nat} {k n : Nat} {Q : State → Prop} (h1 : k + 1 ≤ rX7_init.cells) (h2 : n + 12 ≤ rX7_init.slots) (kk : ∀ q7 : Nat, kd S q7 = 0 → K p l e rX7_init s m args below meth c 2 w (k + 1) (n + 12) Q (nw S q7 21 12) 9 [(0, .ref v0), (1, .ref v1)] [.ref q7, .ref v0]) : K p l e rX7_init s m args below meth c 2 w k n Q S 0 [(0, .ref v0), (1, .ref v1)] [] := by
  refine k_aload_n B 0 rfl rfl dX7_init_0 ?_
  refine k_objInit B (in_of qlRX7_3) (in_of qi_obj) (in_of qc_obj) (Nat.le_of_ble_eq_true rfl) (Nat.le_of_ble_eq_true rfl) dX7_init_1 ?_
  refine k_aload_n B 0 rfl rfl dX7_init_4 ?_
  refine k_bipush (v := 12) B (by decide) dX7_init_5 ?_
  refine k_newI (N' := 12) B (in_of qarrI) (by decide) (by decide) (by decide) h1 h2 dX7_init_7 (fun q7 f7 => ?_)
  exact kk q7 f7
theorem bX7_init_9 (B : Bd p s m args meth c cX7_init 2 (wsOf yX7_init cX7_init 2 none) RX7 w none "<init>") {v0 : Nat} {v1 : Nat} {t0 : Nat} {t1 : Nat} {k n : Nat} {Q : State → Prop} (h1 : kd S t0 = 9) (h2 : k + 1 ≤ rX7_init.cells) (h3 : n + 12 ≤ rX7_init.slots) (kk : ∀ q15 : Nat, kd (sP S 514 t0 (some t1)) q15 = 0 → K p l e rX7_init s m args below meth c 2 w (k + 1) (n + 12) Q (nw (sP S 514 t0 (some t1)) q15 21 12) 17 [(0, .ref v0), (1, .ref v1)] [.ref q15, .ref v0]) : K p l e rX7_init s m args below meth c 2 w k n Q S 9 [(0, .ref v0), (1, .ref v1)] [.ref t1, .ref t0] := by
  refine k_putPF (f := 514) (v := some t1) B 8 2 rfl (by decide) rfl (by decide) rfl rfl (fun w h => in_of (uw_8 w h)) (in_of qfRX7_9) tyX7 tyX7_ok nmX7 rfl rfl rfl (tyX7_ok 2 (by decide)) rfl rfl dX7_init_9 h1 ?_
  refine k_aload_n B 0 rfl rfl dX7_init_12 ?_
  refine k_bipush (v := 12) B (by decide) dX7_init_13 ?_
  refine k_newI (N' := 12) B (in_of qarrI) (by decide) (by decide) (by decide) h2 h3 dX7_init_15 (fun q15 f15 => ?_)
  exact kk q15 f15
theorem bX7_init_17 (B : Bd p s m args meth c cX7_init 2 (wsOf yX7_init cX7_init 2 none) RX7 w none "<init>") {v0 : Nat} {v1 : Nat} {t0 : Nat} {t1 : Nat} {k n : Nat} {Q : State → Prop} (h1 : kd S t0 = 9) (h2 : k + 1 ≤ rX7_init.cells) (h3 : n + 12 ≤ rX7_init.slots) (kk : ∀ q23 : Nat, kd (sP S 515 t0 (some t1)) q23 = 0 → K p l e rX7_init s m args below meth c 2 w (k + 1) (n + 12) Q (nw (sP S 515 t0 (some t1)) q23 21 12) 25 [(0, .ref v0), (1, .ref v1)] [.ref q23, .ref v0]) : K p l e rX7_init s m args below meth c 2 w k n Q S 17 [(0, .ref v0), (1, .ref v1)] [.ref t1, .ref t0] := by
  refine k_putPF (f := 515) (v := some t1) B 8 3 rfl (by decide) rfl (by decide) rfl rfl (fun w h => in_of (uw_8 w h)) (in_of qfRX7_15) tyX7 tyX7_ok nmX7 rfl rfl rfl (tyX7_ok 3 (by decide)) rfl rfl dX7_init_17 h1 ?_
  refine k_aload_n B 0 rfl rfl dX7_init_20 ?_
  refine k_bipush (v := 12) B (by decide) dX7_init_21 ?_
  refine k_newI (N' := 12) B (in_of qarrI) (by decide) (by decide) (by decide) h2 h3 dX7_init_23 (fun q23 f23 => ?_)
  exact kk q23 f23
theorem bX7_init_25 (B : Bd p s m args meth c cX7_init 2 (wsOf yX7_init cX7_init 2 none) RX7 w none "<init>") {v0 : Nat} {v1 : Nat} {t0 : Nat} {t1 : Nat} {k n : Nat} {Q : State → Prop} (h1 : kd S t0 = 9) (h2 : kd S v0 = 9) (h3 : k + 1 ≤ rX7_init.cells) (h4 : n + 6 ≤ rX7_init.slots) (kk : ∀ q39 : Nat, kd (sP (sI (sP S 516 t0 (some t1)) 517 v0 0) 512 v0 (some v1)) q39 = 0 → K p l e rX7_init s m args below meth c 2 w (k + 1) (n + 6) Q (nw (sP (sI (sP S 516 t0 (some t1)) 517 v0 0) 512 v0 (some v1)) q39 11 0) 42 [(1, .ref v1)] [.ref q39, .ref v0]) : K p l e rX7_init s m args below meth c 2 w k n Q S 25 [(0, .ref v0), (1, .ref v1)] [.ref t1, .ref t0] := by
  refine k_putPF (f := 516) (v := some t1) B 8 4 rfl (by decide) rfl (by decide) rfl rfl (fun w h => in_of (uw_8 w h)) (in_of qfRX7_18) tyX7 tyX7_ok nmX7 rfl rfl rfl (tyX7_ok 4 (by decide)) rfl rfl dX7_init_25 h1 ?_
  refine k_aload_n B 0 rfl rfl dX7_init_28 ?_
  refine k_iconst (v := 0) B (by decide) dX7_init_29 ?_
  refine k_putI (f := 517) B 8 5 rfl (by decide) rfl (by decide) rfl rfl (fun w h => in_of (uw_8 w h)) (in_of qfRX7_21) tyX7 tyX7_ok nmX7 rfl (tyX7_ok 5 (by decide)) dX7_init_30 h2 ?_
  refine k_aload_n B 0 rfl rfl dX7_init_33 ?_
  refine k_aload_n B 1 rfl rfl dX7_init_34 ?_
  refine k_putPF (f := 512) (v := some v1) B 8 0 rfl (by decide) rfl (by decide) rfl rfl (fun w h => in_of (uw_8 w h)) (in_of qfRX7_25) tyX7 tyX7_ok nmX7 rfl rfl rfl (tyX7_ok 0 (by decide)) rfl rfl dX7_init_35 h2 ?_
  refine k_aload_n B 0 rfl rfl dX7_init_38 ?_
  refine k_new B 10 rfl rfl (by decide) tyX9 tyX9_ok (by decide +kernel) (fun w h => in_of (uw_10 w h)) (in_of qkRX7_29) (in_of qn10) (in_of qzRX9) h3 h4 dX7_init_39 (fun q39 f39 => ?_)
  refine k_sub [1] rfl ?_
  exact kk q39 f39
theorem bX7_init_42 (B : Bd p s m args meth c cX7_init 2 (wsOf yX7_init cX7_init 2 none) RX7 w none "<init>") {v1 : Nat} {t0 : Nat} {t1 : Nat} {post : St → Prop} {k n : Nat} {Q : State → Prop} (hc : ConV l yX9_init (wsOf yX9_init cX9_init 2 none) rX9_init w S [.ref t1, .ref v1] post) (h1 : k + 0 ≤ rX7_init.cells) (h2 : n + 0 ≤ rX7_init.slots) (kk : ∀ (S' : St), post S' → K p l e rX7_init s m args below meth c 2 w k n Q S' 47 [] [.ref t1, .ref t0]) : K p l e rX7_init s m args below meth c 2 w k n Q S 42 [(1, .ref v1)] [.ref t1, .ref t0] := by
  refine k_dup B rfl dX7_init_42 ?_
  refine k_aload_n B 0 rfl rfl dX7_init_43 ?_
  refine callC_V (st := [.ref t1, .ref t0]) B [.ref v1] (hc) (cwI 1 B.1.2.2.2.2 (gB qcX9_init) rfl rfl rfl (B.1.2.2.2.2 _ (in_of qzRX9)) (B.1.2.2.2.2 _ (in_of qlRX7_31)) (B.1.2.2.2.2 _ (in_of qiX9_init)) rfl (by decide +kernel) ⟨Nat.le_of_ble_eq_true rfl, Nat.le_of_ble_eq_true rfl⟩) rfl (Nat.le_of_ble_eq_true rfl) rfl dX7_init_44 ⟨h1, h2⟩ (fun S' hp => ?_)
  refine k_sub [] rfl ?_
  exact kk S' hp
theorem bX7_init_47 (B : Bd p s m args meth c cX7_init 2 (wsOf yX7_init cX7_init 2 none) RX7 w none "<init>") {t0 : Nat} {t1 : Nat} {post : St → Prop} {k n : Nat} (h1 : kd S t0 = 9) (hq : post (sP S 513 t0 (some t1))) : K p l e rX7_init s m args below meth c 2 w k n (MQ below (va_Qv post (fun S' t => Hd w S' t.heap) (wA w)) args s k n (wA w)) S 47 [] [.ref t1, .ref t0] := by
  refine k_putPF (f := 513) (v := some t1) B 8 1 rfl (by decide) rfl (by decide) rfl rfl (fun w h => in_of (uw_8 w h)) (in_of qfRX7_34) tyX7 tyX7_ok nmX7 rfl rfl rfl (tyX7_ok 1 (by decide)) rfl rfl dX7_init_47 h1 ?_
  exact ret_V B rfl dX7_init_50 (hq)
theorem bX7_follow_0 (B : Bd p s m args meth c cX7_follow 6 (wsOf yX7_follow cX7_follow 6 (some .int)) RX7 w (some .int) "follow") {v0 : Nat} {v1 : Nat} {v2 : Nat} {post : Int32 → St → Prop} {Q : State → Prop} (hc : ConI l yX6_loadAtDepot (wsOf yX6_loadAtDepot cX6_loadAtDepot 3 (some .int)) rX6_loadAtDepot w S [.ref v2] post) (h1 : kd S v2 = 8) (kk : ∀ (r : Int32) (S' : St), post r S' → K p l e rX7_follow s m args below meth c 6 w 0 0 Q S' 4 [(0, .ref v0), (1, .ref v1), (2, .ref v2)] [.int r]) : K p l e rX7_follow s m args below meth c 6 w 0 0 Q S 0 [(0, .ref v0), (1, .ref v1), (2, .ref v2)] [] := by
  refine k_aload_n B 2 rfl rfl dX7_follow_0 ?_
  refine callV_I (st := []) B [] (hc) (cwV 0 B.1.2.2.2.2 (gV qlRX7_38 qiX6_loadAtDepot qeX6_loadAtDepot qzRX6 qcX6_loadAtDepot) rfl rfl rfl (by decide +kernel) ⟨Nat.le_of_ble_eq_true rfl, Nat.le_of_ble_eq_true rfl⟩) rfl rfl (by decide) h1 (Nat.le_of_ble_eq_true rfl) rfl dX7_follow_1 ⟨Nat.le_of_ble_eq_true rfl, Nat.le_of_ble_eq_true rfl⟩ (fun r S' hp => ?_)
  exact kk r S' hp
theorem bX7_follow_4 (B : Bd p s m args meth c cX7_follow 6 (wsOf yX7_follow cX7_follow 6 (some .int)) RX7 w (some .int) "follow") {v0 : Nat} {v1 : Nat} {v2 : Nat} {t0 : Int32} {x1 : Nat} {post : St → Prop} {Q : State → Prop} (h1 : kd S v0 = 9) (h2 : gP S 513 v0 = some x1) (h3 : kd S v1 = 12) (hc : ConV l yX9_begin (wsOf yX9_begin cX9_begin 2 none) rX9_begin w (sI S 517 v0 0) [.ref x1, .int (gI S 706 v1)] post) (h4 : kd S x1 = 11) (kk : ∀ (S' : St), post S' → K p l e rX7_follow s m args below meth c 6 w 0 0 Q S' 21 [(0, .ref v0), (1, .ref v1), (2, .ref v2), (3, .int t0)] []) : K p l e rX7_follow s m args below meth c 6 w 0 0 Q S 4 [(0, .ref v0), (1, .ref v1), (2, .ref v2)] [.int t0] := by
  refine k_istore_n (lst' := [(3, .int t0), (0, .ref v0), (1, .ref v1), (2, .ref v2)]) B rfl (by decide) rfl dX7_follow_4 ?_
  refine k_aload_n B 1 rfl rfl dX7_follow_5 ?_
  refine k_iconst (v := 0) B (by decide) dX7_follow_6 ?_
  refine k_putI (f := 517) B 8 5 rfl (by decide) rfl (by decide) rfl rfl (fun w h => in_of (uw_8 w h)) (in_of qfRX7_21) tyX7 tyX7_ok nmX7 rfl (tyX7_ok 5 (by decide)) dX7_follow_7 h1 ?_
  refine k_aload_n B 1 rfl rfl dX7_follow_10 ?_
  refine k_getP (f := 513) (r := gP S 513 v0) B 8 1 rfl (by decide) rfl (by decide) rfl rfl (fun w h => in_of (uw_8 w h)) (in_of qfRX7_34) dX7_follow_11 h1 rfl ?_
  rw [h2]; change K _ _ _ _ _ _ _ _ _ _ _ _ _ _ _ _ _ _ (.ref x1 :: _)
  refine k_aload_n B 2 rfl rfl dX7_follow_14 ?_
  refine k_getI (f := 706) (v := gI S 706 v1) B 11 2 rfl (by decide) rfl (by decide) rfl rfl (fun w h => in_of (uw_11 w h)) (in_of qfRX7_44) dX7_follow_15 h3 rfl ?_
  refine callV_V (st := []) B [.int (gI S 706 v1)] (hc) (cwV 1 B.1.2.2.2.2 (gV qlRX7_49 qiX9_begin qeX9_begin qzRX9 qcX9_begin) rfl rfl rfl (by decide +kernel) ⟨Nat.le_of_ble_eq_true rfl, Nat.le_of_ble_eq_true rfl⟩) rfl rfl (by decide) h4 (Nat.le_of_ble_eq_true rfl) rfl dX7_follow_18 ⟨Nat.le_of_ble_eq_true rfl, Nat.le_of_ble_eq_true rfl⟩ (fun S' hp => ?_)
  refine k_sub [1, 2, 3, 0] rfl ?_
  exact kk S' hp
theorem bX7_follow_21 (B : Bd p s m args meth c cX7_follow 6 (wsOf yX7_follow cX7_follow 6 (some .int)) RX7 w (some .int) "follow") {v0 : Nat} {v1 : Nat} {v2 : Nat} {v3 : Int32} {Q : State → Prop}  (kk : K p l e rX7_follow s m args below meth c 6 w 0 0 Q S 24 [(0, .ref v0), (1, .ref v1), (2, .ref v2), (3, .int v3), (4, .int 0)] []) : K p l e rX7_follow s m args below meth c 6 w 0 0 Q S 21 [(0, .ref v0), (1, .ref v1), (2, .ref v2), (3, .int v3)] [] := by
  refine k_iconst (v := 0) B (by decide) dX7_follow_21 ?_
  refine k_istore (lst' := [(4, .int 0), (0, .ref v0), (1, .ref v1), (2, .ref v2), (3, .int v3)]) B (by decide) rfl dX7_follow_22 ?_
  refine k_sub [1, 2, 3, 4, 0] rfl ?_
  exact kk
theorem bX7_follow_24 (B : Bd p s m args meth c cX7_follow 6 (wsOf yX7_follow cX7_follow 6 (some .int)) RX7 w (some .int) "follow") {v0 : Nat} {v1 : Nat} {v2 : Nat} {v3 : Int32} {v4 : Int32} {Q : State → Prop} (h1 : kd S v2 = 8) (kt : (gI S 449 v2) ≤ v4 → K p l e rX7_follow s m args below meth c 6 w 0 0 Q S 192 [(0, .ref v0), (1, .ref v1)] []) (kf : ¬ (gI S 449 v2) ≤ v4 → K p l e rX7_follow s m args below meth c 6 w 0 0 Q S 33 [(0, .ref v0), (1, .ref v1), (2, .ref v2), (3, .int v3), (4, .int v4)] []) : K p l e rX7_follow s m args below meth c 6 w 0 0 Q S 24 [(0, .ref v0), (1, .ref v1), (2, .ref v2), (3, .int v3), (4, .int v4)] [] := by
  refine k_iload B 4 rfl dX7_follow_24 ?_
  refine k_aload_n B 2 rfl rfl dX7_follow_26 ?_
  refine k_getI (f := 449) (v := gI S 449 v2) B 7 1 rfl (by decide) rfl (by decide) rfl rfl (fun w h => in_of (uw_7 w h)) (in_of qfRX7_53) dX7_follow_27 h1 rfl ?_
  refine k_icmp_ge (tgt := 192) B dX7_follow_30 (by decide) (fun c => ?_) (fun c => ?_)
  · refine k_sub [0, 1] rfl ?_
    exact kt c
  · exact kf c
theorem bX7_follow_33 (B : Bd p s m args meth c cX7_follow 6 (wsOf yX7_follow cX7_follow 6 (some .int)) RX7 w (some .int) "follow") {v0 : Nat} {v1 : Nat} {v2 : Nat} {v3 : Int32} {v4 : Int32} {Q : State → Prop}  (kt : 12 ≤ v4 → K p l e rX7_follow s m args below meth c 6 w 0 0 Q S 192 [(0, .ref v0), (1, .ref v1)] []) (kf : ¬ 12 ≤ v4 → K p l e rX7_follow s m args below meth c 6 w 0 0 Q S 40 [(0, .ref v0), (1, .ref v1), (2, .ref v2), (3, .int v3), (4, .int v4)] []) : K p l e rX7_follow s m args below meth c 6 w 0 0 Q S 33 [(0, .ref v0), (1, .ref v1), (2, .ref v2), (3, .int v3), (4, .int v4)] [] := by
  refine k_iload B 4 rfl dX7_follow_33 ?_
  refine k_bipush (v := 12) B (by decide) dX7_follow_35 ?_
  refine k_icmp_ge (tgt := 192) B dX7_follow_37 (by decide) (fun c => ?_) (fun c => ?_)
  · refine k_sub [0, 1] rfl ?_
    exact kt c
  · exact kf c
theorem bX7_follow_40 (B : Bd p s m args meth c cX7_follow 6 (wsOf yX7_follow cX7_follow 6 (some .int)) RX7 w (some .int) "follow") {v0 : Nat} {v1 : Nat} {v2 : Nat} {v3 : Int32} {v4 : Int32} {post : Nat → St → Prop} {Q : State → Prop} (hc : ConR l yX6_at (wsOf yX6_at cX6_at 2 (some (.object "LastMile$Parcel"))) rX6_at w S [.ref v2, .int v4] post) (h1 : kd S v2 = 8) (kk : ∀ (r : Nat) (S' : St), post r S' → K p l e rX7_follow s m args below meth c 6 w 0 0 Q S' 46 [(0, .ref v0), (1, .ref v1), (2, .ref v2), (3, .int v3), (4, .int v4)] [.ref r]) : K p l e rX7_follow s m args below meth c 6 w 0 0 Q S 40 [(0, .ref v0), (1, .ref v1), (2, .ref v2), (3, .int v3), (4, .int v4)] [] := by
  refine k_aload_n B 2 rfl rfl dX7_follow_40 ?_
  refine k_iload B 4 rfl dX7_follow_41 ?_
  refine callV_R (st := []) B [.int v4] (hc) (cwV 1 B.1.2.2.2.2 (gV qlRX7_56 qiX6_at qeX6_at qzRX6 qcX6_at) rfl rfl rfl (by decide +kernel) ⟨Nat.le_of_ble_eq_true rfl, Nat.le_of_ble_eq_true rfl⟩) rfl rfl (by decide) h1 (Nat.le_of_ble_eq_true rfl) rfl dX7_follow_43 ⟨Nat.le_of_ble_eq_true rfl, Nat.le_of_ble_eq_true rfl⟩ (fun r S' hp => ?_)
  exact kk r S' hp
theorem bX7_follow_46 (B : Bd p s m args meth c cX7_follow 6 (wsOf yX7_follow cX7_follow 6 (some .int)) RX7 w (some .int) "follow") {v0 : Nat} {v1 : Nat} {v2 : Nat} {v3 : Int32} {v4 : Int32} {t0 : Nat} {x1 : Nat} {x2 : Nat} {x3 : Nat} {post : St → Prop} {Q : State → Prop} (h1 : kd S v0 = 9) (h2 : gP S 513 v0 = some x1) (h3 : kd S t0 = 5) (h4 : gP S 260 t0 = some x2) (h5 : kd S x2 = 3) (h6 : gP S 128 x2 = some x3) (hc : ConV l yX9_goWithBreak (wsOf yX9_goWithBreak cX9_goWithBreak 3 none) rX9_goWithBreak w S [.ref x1, .ref x3] post) (h7 : kd S x1 = 11) (kk : ∀ (S' : St), post S' → K p l e rX7_follow s m args below meth c 6 w 0 0 Q S' 63 [(0, .ref v0), (1, .ref v1), (2, .ref v2), (3, .int v3), (4, .int v4), (5, .ref t0)] []) : K p l e rX7_follow s m args below meth c 6 w 0 0 Q S 46 [(0, .ref v0), (1, .ref v1), (2, .ref v2), (3, .int v3), (4, .int v4)] [.ref t0] := by
  refine k_astore (lst' := [(5, .ref t0), (0, .ref v0), (1, .ref v1), (2, .ref v2), (3, .int v3), (4, .int v4)]) B (by decide) rfl dX7_follow_46 ?_
  refine k_aload_n B 1 rfl rfl dX7_follow_48 ?_
  refine k_getP (f := 513) (r := gP S 513 v0) B 8 1 rfl (by decide) rfl (by decide) rfl rfl (fun w h => in_of (uw_8 w h)) (in_of qfRX7_34) dX7_follow_49 h1 rfl ?_
  rw [h2]; change K _ _ _ _ _ _ _ _ _ _ _ _ _ _ _ _ _ _ (.ref x1 :: _)
  refine k_aload B 0 rfl dX7_follow_52 ?_
  refine k_getP (f := 260) (r := gP S 260 t0) B 4 4 rfl (by decide) rfl (by decide) rfl rfl (fun w h => in_of (uw_4 w h)) (in_of qfRX7_60) dX7_follow_54 h3 rfl ?_
  rw [h4]; change K _ _ _ _ _ _ _ _ _ _ _ _ _ _ _ _ _ _ (.ref x2 :: _)
  refine k_getP (f := 128) (r := gP S 128 x2) B 2 0 rfl (by decide) rfl (by decide) rfl rfl (fun w h => in_of (uw_2 w h)) (in_of qfRX7_66) dX7_follow_57 h5 rfl ?_
  rw [h6]; change K _ _ _ _ _ _ _ _ _ _ _ _ _ _ _ _ _ _ (.ref x3 :: _)
  refine callV_V (st := []) B [.ref x3] (hc) (cwV 1 B.1.2.2.2.2 (gV qlRX7_72 qiX9_goWithBreak qeX9_goWithBreak qzRX9 qcX9_goWithBreak) rfl rfl rfl (by decide +kernel) ⟨Nat.le_of_ble_eq_true rfl, Nat.le_of_ble_eq_true rfl⟩) rfl rfl (by decide) h7 (Nat.le_of_ble_eq_true rfl) rfl dX7_follow_60 ⟨Nat.le_of_ble_eq_true rfl, Nat.le_of_ble_eq_true rfl⟩ (fun S' hp => ?_)
  refine k_sub [1, 2, 3, 4, 5, 0] rfl ?_
  exact kk S' hp
theorem bX7_follow_63 (B : Bd p s m args meth c cX7_follow 6 (wsOf yX7_follow cX7_follow 6 (some .int)) RX7 w (some .int) "follow") {v0 : Nat} {v1 : Nat} {v2 : Nat} {v3 : Int32} {v4 : Int32} {v5 : Nat} {x1 : Nat} {post : St → Prop} {Q : State → Prop} (h1 : kd S v0 = 9) (h2 : gP S 513 v0 = some x1) (h3 : kd S v5 = 5) (hc : ConV l yX9_waitTill (wsOf yX9_waitTill cX9_waitTill 2 none) rX9_waitTill w S [.ref x1, .int (gI S 261 v5)] post) (h4 : kd S x1 = 11) (kk : ∀ (S' : St), post S' → K p l e rX7_follow s m args below meth c 6 w 0 0 Q S' 75 [(0, .ref v0), (1, .ref v1), (2, .ref v2), (3, .int v3), (4, .int v4), (5, .ref v5)] []) : K p l e rX7_follow s m args below meth c 6 w 0 0 Q S 63 [(0, .ref v0), (1, .ref v1), (2, .ref v2), (3, .int v3), (4, .int v4), (5, .ref v5)] [] := by
  refine k_aload_n B 0 rfl rfl dX7_follow_63 ?_
  refine k_getP (f := 513) (r := gP S 513 v0) B 8 1 rfl (by decide) rfl (by decide) rfl rfl (fun w h => in_of (uw_8 w h)) (in_of qfRX7_34) dX7_follow_64 h1 rfl ?_
  rw [h2]; change K _ _ _ _ _ _ _ _ _ _ _ _ _ _ _ _ _ _ (.ref x1 :: _)
  refine k_aload B 5 rfl dX7_follow_67 ?_
  refine k_getI (f := 261) (v := gI S 261 v5) B 4 5 rfl (by decide) rfl (by decide) rfl rfl (fun w h => in_of (uw_4 w h)) (in_of qfRX7_76) dX7_follow_69 h3 rfl ?_
  refine callV_V (st := []) B [.int (gI S 261 v5)] (hc) (cwV 1 B.1.2.2.2.2 (gV qlRX7_79 qiX9_waitTill qeX9_waitTill qzRX9 qcX9_waitTill) rfl rfl rfl (by decide +kernel) ⟨Nat.le_of_ble_eq_true rfl, Nat.le_of_ble_eq_true rfl⟩) rfl rfl (by decide) h4 (Nat.le_of_ble_eq_true rfl) rfl dX7_follow_72 ⟨Nat.le_of_ble_eq_true rfl, Nat.le_of_ble_eq_true rfl⟩ (fun S' hp => ?_)
  exact kk S' hp
theorem bX7_follow_75 (B : Bd p s m args meth c cX7_follow 6 (wsOf yX7_follow cX7_follow 6 (some .int)) RX7 w (some .int) "follow") {v0 : Nat} {v1 : Nat} {v2 : Nat} {v3 : Int32} {v4 : Int32} {v5 : Nat} {Q : State → Prop} (h1 : kd S v5 = 5) (kt : ¬ (gI S 257 v5) = 2 → K p l e rX7_follow s m args below meth c 6 w 0 0 Q S 93 [(0, .ref v0), (1, .ref v1), (2, .ref v2), (4, .int v4), (5, .ref v5)] [.int v3]) (kf : (gI S 257 v5) = 2 → K p l e rX7_follow s m args below meth c 6 w 0 0 Q S 85 [(0, .ref v0), (1, .ref v1), (2, .ref v2), (4, .int v4), (5, .ref v5)] [.int v3]) : K p l e rX7_follow s m args below meth c 6 w 0 0 Q S 75 [(0, .ref v0), (1, .ref v1), (2, .ref v2), (3, .int v3), (4, .int v4), (5, .ref v5)] [] := by
  refine k_iload_n B 3 rfl rfl dX7_follow_75 ?_
  refine k_aload B 5 rfl dX7_follow_76 ?_
  refine k_getI (f := 257) (v := gI S 257 v5) B 4 1 rfl (by decide) rfl (by decide) rfl rfl (fun w h => in_of (uw_4 w h)) (in_of qfRX7_82) dX7_follow_78 h1 rfl ?_
  refine k_iconst (v := 2) B (by decide) dX7_follow_81 ?_
  refine k_icmp_ne (tgt := 93) B dX7_follow_82 (by decide) (fun c => ?_) (fun c => ?_)
  · refine k_sub [0, 1, 2, 4, 5] rfl ?_
    exact kt c
  · refine k_sub [0, 1, 2, 4, 5] rfl ?_
    exact kf c
theorem bX7_follow_85 (B : Bd p s m args meth c cX7_follow 6 (wsOf yX7_follow cX7_follow 6 (some .int)) RX7 w (some .int) "follow") {v0 : Nat} {v1 : Nat} {v2 : Nat} {v4 : Int32} {v5 : Nat} {t0 : Int32} {Q : State → Prop} (h1 : kd S v5 = 5) (kk : K p l e rX7_follow s m args below meth c 6 w 0 0 Q S 99 [(0, .ref v0), (1, .ref v1), (2, .ref v2), (4, .int v4), (5, .ref v5)] [.int (gI S 258 v5), .int t0]) : K p l e rX7_follow s m args below meth c 6 w 0 0 Q S 85 [(0, .ref v0), (1, .ref v1), (2, .ref v2), (4, .int v4), (5, .ref v5)] [.int t0] := by
  refine k_aload B 4 rfl dX7_follow_85 ?_
  refine k_getI (f := 258) (v := gI S 258 v5) B 4 2 rfl (by decide) rfl (by decide) rfl rfl (fun w h => in_of (uw_4 w h)) (in_of qfRX7_85) dX7_follow_87 h1 rfl ?_
  refine k_goto (tgt := 99) B dX7_follow_90 (by decide) ?_
  exact kk
theorem bX7_follow_93 (B : Bd p s m args meth c cX7_follow 6 (wsOf yX7_follow cX7_follow 6 (some .int)) RX7 w (some .int) "follow") {v0 : Nat} {v1 : Nat} {v2 : Nat} {v4 : Int32} {v5 : Nat} {t0 : Int32} {Q : State → Prop} (h1 : kd S v5 = 5) (kk : K p l e rX7_follow s m args below meth c 6 w 0 0 Q S 99 [(0, .ref v0), (1, .ref v1), (2, .ref v2), (4, .int v4), (5, .ref v5)] [.int (-(gI S 258 v5)), .int t0]) : K p l e rX7_follow s m args below meth c 6 w 0 0 Q S 93 [(0, .ref v0), (1, .ref v1), (2, .ref v2), (4, .int v4), (5, .ref v5)] [.int t0] := by
  refine k_aload B 4 rfl dX7_follow_93 ?_
  refine k_getI (f := 258) (v := gI S 258 v5) B 4 2 rfl (by decide) rfl (by decide) rfl rfl (fun w h => in_of (uw_4 w h)) (in_of qfRX7_85) dX7_follow_95 h1 rfl ?_
  refine k_ineg B dX7_follow_98 ?_
  exact kk
theorem bX7_follow_99 (B : Bd p s m args meth c cX7_follow 6 (wsOf yX7_follow cX7_follow 6 (some .int)) RX7 w (some .int) "follow") {v0 : Nat} {v1 : Nat} {v2 : Nat} {v4 : Int32} {v5 : Nat} {t0 : Int32} {t1 : Int32} {x1 : Nat} {x2 : Nat} {x3 : Nat} {x4 : Nat} {Q : State → Prop} (h1 : kd S v0 = 9) (h2 : gP S 514 v0 = some x1) (h3 : gP S 513 v0 = some x2) (h4 : kd S x2 = 11) (h5 : kd S x1 = 21) (h6 : vp_in v4 (ln S x1)) (h7 : gP S 515 v0 = some x3) (h8 : gP S 513 v0 = some x4) (h9 : kd S x4 = 11) (h10 : kd S v5 = 5) (kt : (gI S 643 x4) ≤ (gI S 262 v5) → K p l e rX7_follow s m args below meth c 6 w 0 0 Q (sRI S x1 (va_up (rI S x1) v4.toNatClampNeg (gI S 643 x2))) 152 [(0, .ref v0), (1, .ref v1), (2, .ref v2), (3, .int (t0 + t1)), (4, .int v4)] [.int v4, .ref x3]) (kf : ¬ (gI S 643 x4) ≤ (gI S 262 v5) → K p l e rX7_follow s m args below meth c 6 w 0 0 Q (sRI S x1 (va_up (rI S x1) v4.toNatClampNeg (gI S 643 x2))) 136 [(0, .ref v0), (1, .ref v1), (2, .ref v2), (3, .int (t0 + t1)), (4, .int v4), (5, .ref v5)] [.int v4, .ref x3]) : K p l e rX7_follow s m args below meth c 6 w 0 0 Q S 99 [(0, .ref v0), (1, .ref v1), (2, .ref v2), (4, .int v4), (5, .ref v5)] [.int t1, .int t0] := by
  refine k_iadd B dX7_follow_99 ?_
  refine k_istore_n (lst' := [(3, .int (t0 + t1)), (0, .ref v0), (1, .ref v1), (2, .ref v2), (4, .int v4), (5, .ref v5)]) B rfl (by decide) rfl dX7_follow_100 ?_
  refine k_aload_n B 1 rfl rfl dX7_follow_101 ?_
  refine k_getP (f := 514) (r := gP S 514 v0) B 8 2 rfl (by decide) rfl (by decide) rfl rfl (fun w h => in_of (uw_8 w h)) (in_of qfRX7_9) dX7_follow_102 h1 rfl ?_
  rw [h2]; change K _ _ _ _ _ _ _ _ _ _ _ _ _ _ _ _ _ _ (.ref x1 :: _)
  refine k_iload B 4 rfl dX7_follow_105 ?_
  refine k_aload_n B 1 rfl rfl dX7_follow_107 ?_
  refine k_getP (f := 513) (r := gP S 513 v0) B 8 1 rfl (by decide) rfl (by decide) rfl rfl (fun w h => in_of (uw_8 w h)) (in_of qfRX7_34) dX7_follow_108 h1 rfl ?_
  rw [h3]; change K _ _ _ _ _ _ _ _ _ _ _ _ _ _ _ _ _ _ (.ref x2 :: _)
  refine k_getI (f := 643) (v := gI S 643 x2) B 10 3 rfl (by decide) rfl (by decide) rfl rfl (fun w h => in_of (uw_10 w h)) (in_of qfRX7_88) dX7_follow_111 h4 rfl ?_
  refine k_iast (g := rI S x1) (S' := sRI S x1 (va_up (rI S x1) v4.toNatClampNeg (gI S 643 x2))) B dX7_follow_114 h5 h6 rfl rfl ?_
  refine k_aload_n B 1 rfl rfl dX7_follow_115 ?_
  refine k_getP (f := 515) (r := gP S 515 v0) B 8 3 rfl (by decide) rfl (by decide) rfl rfl (fun w h => in_of (uw_8 w h)) (in_of qfRX7_15) dX7_follow_116 h1 rfl ?_
  rw [h7]; change K _ _ _ _ _ _ _ _ _ _ _ _ _ _ _ _ _ _ (.ref x3 :: _)
  refine k_iload B 4 rfl dX7_follow_119 ?_
  refine k_aload_n B 1 rfl rfl dX7_follow_121 ?_
  refine k_getP (f := 513) (r := gP S 513 v0) B 8 1 rfl (by decide) rfl (by decide) rfl rfl (fun w h => in_of (uw_8 w h)) (in_of qfRX7_34) dX7_follow_122 h1 rfl ?_
  rw [h8]; change K _ _ _ _ _ _ _ _ _ _ _ _ _ _ _ _ _ _ (.ref x4 :: _)
  refine k_getI (f := 643) (v := gI S 643 x4) B 10 3 rfl (by decide) rfl (by decide) rfl rfl (fun w h => in_of (uw_10 w h)) (in_of qfRX7_88) dX7_follow_125 h9 rfl ?_
  refine k_aload B 5 rfl dX7_follow_128 ?_
  refine k_getI (f := 262) (v := gI S 262 v5) B 4 6 rfl (by decide) rfl (by decide) rfl rfl (fun w h => in_of (uw_4 w h)) (in_of qfRX7_91) dX7_follow_130 h10 rfl ?_
  refine k_icmp_le (tgt := 152) B dX7_follow_133 (by decide) (fun c => ?_) (fun c => ?_)
  · refine k_sub [1, 2, 3, 0, 4] rfl ?_
    exact kt c
  · refine k_sub [1, 2, 3, 0, 4, 5] rfl ?_
    exact kf c
theorem bX7_follow_136 (B : Bd p s m args meth c cX7_follow 6 (wsOf yX7_follow cX7_follow 6 (some .int)) RX7 w (some .int) "follow") {v0 : Nat} {v1 : Nat} {v2 : Nat} {v3 : Int32} {v4 : Int32} {v5 : Nat} {t0 : Nat} {t1 : Int32} {x1 : Nat} {Q : State → Prop} (h1 : kd S v0 = 9) (h2 : gP S 513 v0 = some x1) (h3 : kd S x1 = 11) (h4 : kd S v5 = 5) (kk : K p l e rX7_follow s m args below meth c 6 w 0 0 Q S 153 [(0, .ref v0), (1, .ref v1), (2, .ref v2), (3, .int v3), (4, .int v4)] [.int ((gI S 643 x1) - (gI S 262 v5)), .int t1, .ref t0]) : K p l e rX7_follow s m args below meth c 6 w 0 0 Q S 136 [(0, .ref v0), (1, .ref v1), (2, .ref v2), (3, .int v3), (4, .int v4), (5, .ref v5)] [.int t1, .ref t0] := by
  refine k_aload_n B 0 rfl rfl dX7_follow_136 ?_
  refine k_getP (f := 513) (r := gP S 513 v0) B 8 1 rfl (by decide) rfl (by decide) rfl rfl (fun w h => in_of (uw_8 w h)) (in_of qfRX7_34) dX7_follow_137 h1 rfl ?_
  rw [h2]; change K _ _ _ _ _ _ _ _ _ _ _ _ _ _ _ _ _ _ (.ref x1 :: _)
  refine k_getI (f := 643) (v := gI S 643 x1) B 10 3 rfl (by decide) rfl (by decide) rfl rfl (fun w h => in_of (uw_10 w h)) (in_of qfRX7_88) dX7_follow_140 h3 rfl ?_
  refine k_aload B 5 rfl dX7_follow_143 ?_
  refine k_getI (f := 262) (v := gI S 262 v5) B 4 6 rfl (by decide) rfl (by decide) rfl rfl (fun w h => in_of (uw_4 w h)) (in_of qfRX7_91) dX7_follow_145 h4 rfl ?_
  refine k_isub B dX7_follow_148 ?_
  refine k_goto (tgt := 153) B dX7_follow_149 (by decide) ?_
  refine k_sub [0, 1, 2, 3, 4] rfl ?_
  exact kk
theorem bX7_follow_152 (B : Bd p s m args meth c cX7_follow 6 (wsOf yX7_follow cX7_follow 6 (some .int)) RX7 w (some .int) "follow") {v0 : Nat} {v1 : Nat} {v2 : Nat} {v3 : Int32} {v4 : Int32} {t0 : Nat} {t1 : Int32} {Q : State → Prop}  (kk : K p l e rX7_follow s m args below meth c 6 w 0 0 Q S 153 [(0, .ref v0), (1, .ref v1), (2, .ref v2), (3, .int v3), (4, .int v4)] [.int 0, .int t1, .ref t0]) : K p l e rX7_follow s m args below meth c 6 w 0 0 Q S 152 [(0, .ref v0), (1, .ref v1), (2, .ref v2), (3, .int v3), (4, .int v4)] [.int t1, .ref t0] := by
  refine k_iconst (v := 0) B (by decide) dX7_follow_152 ?_
  exact kk
theorem bX7_follow_153 (B : Bd p s m args meth c cX7_follow 6 (wsOf yX7_follow cX7_follow 6 (some .int)) RX7 w (some .int) "follow") {v0 : Nat} {v1 : Nat} {v2 : Nat} {v3 : Int32} {v4 : Int32} {t0 : Nat} {t1 : Int32} {t2 : Int32} {x1 : Nat} {x2 : Nat} {x3 : Nat} {post : St → Prop} {Q : State → Prop} (h1 : kd S t0 = 21) (h2 : vp_in t1 (ln S t0)) (h3 : kd S v0 = 9) (h4 : gP S 516 v0 = some x1) (h5 : kd S x1 = 21) (h6 : vp_in v4 (ln S x1)) (h7 : gP S 515 v0 = some x2) (h8 : kd S x2 = 21) (h9 : vp_in v4 (ln S x2)) (h10 : gP S 513 v0 = some x3) (hc : ConV l yX9_stay (wsOf yX9_stay cX9_stay 2 none) rX9_stay w (sI (sRI (sRI S t0 (va_up (rI S t0) t1.toNatClampNeg t2)) x1 (va_up (rI (sRI S t0 (va_up (rI S t0) t1.toNatClampNeg t2)) x1) v4.toNatClampNeg v3)) 517 v0 ((gI S 517 v0) + ((rI (sRI (sRI S t0 (va_up (rI S t0) t1.toNatClampNeg t2)) x1 (va_up (rI (sRI S t0 (va_up (rI S t0) t1.toNatClampNeg t2)) x1) v4.toNatClampNeg v3)) x2) v4.toNatClampNeg))) [.ref x3, .int 4] post) (h11 : kd S x3 = 11) (kk : ∀ (S' : St), post S' → K p l e rX7_follow s m args below meth c 6 w 0 0 Q S' 186 [(0, .ref v0), (1, .ref v1), (2, .ref v2), (3, .int v3), (4, .int v4)] []) : K p l e rX7_follow s m args below meth c 6 w 0 0 Q S 153 [(0, .ref v0), (1, .ref v1), (2, .ref v2), (3, .int v3), (4, .int v4)] [.int t2, .int t1, .ref t0] := by
  refine k_iast (g := rI S t0) (S' := sRI S t0 (va_up (rI S t0) t1.toNatClampNeg t2)) B dX7_follow_153 h1 h2 rfl rfl ?_
  refine k_aload_n B 0 rfl rfl dX7_follow_154 ?_
  refine k_getP (f := 516) (r := gP S 516 v0) B 8 4 rfl (by decide) rfl (by decide) rfl rfl (fun w h => in_of (uw_8 w h)) (in_of qfRX7_18) dX7_follow_155 h3 rfl ?_
  rw [h4]; change K _ _ _ _ _ _ _ _ _ _ _ _ _ _ _ _ _ _ (.ref x1 :: _)
  refine k_iload B 4 rfl dX7_follow_158 ?_
  refine k_iload_n B 3 rfl rfl dX7_follow_160 ?_
  refine k_iast (g := rI (sRI S t0 (va_up (rI S t0) t1.toNatClampNeg t2)) x1) (S' := sRI (sRI S t0 (va_up (rI S t0) t1.toNatClampNeg t2)) x1 (va_up (rI (sRI S t0 (va_up (rI S t0) t1.toNatClampNeg t2)) x1) v4.toNatClampNeg v3)) B dX7_follow_161 h5 h6 rfl rfl ?_
  refine k_aload_n B 0 rfl rfl dX7_follow_162 ?_
  refine k_dup B rfl dX7_follow_163 ?_
  refine k_getI (f := 517) (v := gI S 517 v0) B 8 5 rfl (by decide) rfl (by decide) rfl rfl (fun w h => in_of (uw_8 w h)) (in_of qfRX7_21) dX7_follow_164 h3 rfl ?_
  refine k_aload_n B 0 rfl rfl dX7_follow_167 ?_
  refine k_getP (f := 515) (r := gP S 515 v0) B 8 3 rfl (by decide) rfl (by decide) rfl rfl (fun w h => in_of (uw_8 w h)) (in_of qfRX7_15) dX7_follow_168 h3 rfl ?_
  rw [h7]; change K _ _ _ _ _ _ _ _ _ _ _ _ _ _ _ _ _ _ (.ref x2 :: _)
  refine k_iload B 4 rfl dX7_follow_171 ?_
  refine k_iald (v := (rI (sRI (sRI S t0 (va_up (rI S t0) t1.toNatClampNeg t2)) x1 (va_up (rI (sRI S t0 (va_up (rI S t0) t1.toNatClampNeg t2)) x1) v4.toNatClampNeg v3)) x2) v4.toNatClampNeg) B dX7_follow_173 h8 h9 rfl ?_
  refine k_iadd B dX7_follow_174 ?_
  refine k_putI (f := 517) B 8 5 rfl (by decide) rfl (by decide) rfl rfl (fun w h => in_of (uw_8 w h)) (in_of qfRX7_21) tyX7 tyX7_ok nmX7 rfl (tyX7_ok 5 (by decide)) dX7_follow_175 h3 ?_
  refine k_aload_n B 0 rfl rfl dX7_follow_178 ?_
  refine k_getP (f := 513) (r := gP S 513 v0) B 8 1 rfl (by decide) rfl (by decide) rfl rfl (fun w h => in_of (uw_8 w h)) (in_of qfRX7_34) dX7_follow_179 h3 rfl ?_
  rw [h10]; change K _ _ _ _ _ _ _ _ _ _ _ _ _ _ _ _ _ _ (.ref x3 :: _)
  refine k_iconst (v := 4) B (by decide) dX7_follow_182 ?_
  refine callV_V (st := []) B [.int 4] (hc) (cwV 1 B.1.2.2.2.2 (gV qlRX7_94 qiX9_stay qeX9_stay qzRX9 qcX9_stay) rfl rfl rfl (by decide +kernel) ⟨Nat.le_of_ble_eq_true rfl, Nat.le_of_ble_eq_true rfl⟩) rfl rfl (by decide) h11 (Nat.le_of_ble_eq_true rfl) rfl dX7_follow_183 ⟨Nat.le_of_ble_eq_true rfl, Nat.le_of_ble_eq_true rfl⟩ (fun S' hp => ?_)
  exact kk S' hp
theorem bX7_follow_186 (B : Bd p s m args meth c cX7_follow 6 (wsOf yX7_follow cX7_follow 6 (some .int)) RX7 w (some .int) "follow") {v0 : Nat} {v1 : Nat} {v2 : Nat} {v3 : Int32} {v4 : Int32} {Q : State → Prop}  (kk : K p l e rX7_follow s m args below meth c 6 w 0 0 Q S 24 [(0, .ref v0), (1, .ref v1), (2, .ref v2), (3, .int v3), (4, .int (v4 + 1))] []) : K p l e rX7_follow s m args below meth c 6 w 0 0 Q S 186 [(0, .ref v0), (1, .ref v1), (2, .ref v2), (3, .int v3), (4, .int v4)] [] := by
  refine k_iinc (v := v4 + 1) (lst' := [(4, .int (v4 + 1)), (0, .ref v0), (1, .ref v1), (2, .ref v2), (3, .int v3)]) B 4 rfl rfl (by decide) rfl dX7_follow_186 ?_
  refine k_goto (tgt := 24) B dX7_follow_189 (by decide) ?_
  refine k_sub [1, 2, 3, 4, 0] rfl ?_
  exact kk
theorem bX7_follow_192 (B : Bd p s m args meth c cX7_follow 6 (wsOf yX7_follow cX7_follow 6 (some .int)) RX7 w (some .int) "follow") {v0 : Nat} {v1 : Nat} {x1 : Nat} {x2 : Nat} {x3 : Nat} {post : St → Prop} {Q : State → Prop} (h1 : kd S v0 = 9) (h2 : gP S 513 v0 = some x1) (h3 : gP S 512 v0 = some x2) (h4 : kd S x2 = 10) (h5 : gP S 577 x2 = some x3) (hc : ConV l yX9_goWithBreak (wsOf yX9_goWithBreak cX9_goWithBreak 3 none) rX9_goWithBreak w S [.ref x1, .ref x3] post) (h6 : kd S x1 = 11) (kk : ∀ (S' : St), post S' → K p l e rX7_follow s m args below meth c 6 w 0 0 Q S' 206 [(0, .ref v0), (1, .ref v1)] []) : K p l e rX7_follow s m args below meth c 6 w 0 0 Q S 192 [(0, .ref v0), (1, .ref v1)] [] := by
  refine k_aload_n B 0 rfl rfl dX7_follow_192 ?_
  refine k_getP (f := 513) (r := gP S 513 v0) B 8 1 rfl (by decide) rfl (by decide) rfl rfl (fun w h => in_of (uw_8 w h)) (in_of qfRX7_34) dX7_follow_193 h1 rfl ?_
  rw [h2]; change K _ _ _ _ _ _ _ _ _ _ _ _ _ _ _ _ _ _ (.ref x1 :: _)
  refine k_aload_n B 0 rfl rfl dX7_follow_196 ?_
  refine k_getP (f := 512) (r := gP S 512 v0) B 8 0 rfl (by decide) rfl (by decide) rfl rfl (fun w h => in_of (uw_8 w h)) (in_of qfRX7_25) dX7_follow_197 h1 rfl ?_
  rw [h3]; change K _ _ _ _ _ _ _ _ _ _ _ _ _ _ _ _ _ _ (.ref x2 :: _)
  refine k_getP (f := 577) (r := gP S 577 x2) B 9 1 rfl (by decide) rfl (by decide) rfl rfl (fun w h => in_of (uw_9 w h)) (in_of qfRX7_97) dX7_follow_200 h4 rfl ?_
  rw [h5]; change K _ _ _ _ _ _ _ _ _ _ _ _ _ _ _ _ _ _ (.ref x3 :: _)
  refine callV_V (st := []) B [.ref x3] (hc) (cwV 1 B.1.2.2.2.2 (gV qlRX7_72 qiX9_goWithBreak qeX9_goWithBreak qzRX9 qcX9_goWithBreak) rfl rfl rfl (by decide +kernel) ⟨Nat.le_of_ble_eq_true rfl, Nat.le_of_ble_eq_true rfl⟩) rfl rfl (by decide) h6 (Nat.le_of_ble_eq_true rfl) rfl dX7_follow_203 ⟨Nat.le_of_ble_eq_true rfl, Nat.le_of_ble_eq_true rfl⟩ (fun S' hp => ?_)
  exact kk S' hp
theorem bX7_follow_206 (B : Bd p s m args meth c cX7_follow 6 (wsOf yX7_follow cX7_follow 6 (some .int)) RX7 w (some .int) "follow") {v0 : Nat} {v1 : Nat} {x1 : Nat} {Q : State → Prop} (h1 : kd S v0 = 9) (h2 : gP S 513 v0 = some x1) (h3 : kd S x1 = 11) (h4 : kd S v1 = 12) (kt : (gI S 643 x1) ≤ (gI S 707 v1) → K p l e rX7_follow s m args below meth c 6 w 0 0 Q S 235 [(0, .ref v0)] []) (kf : ¬ (gI S 643 x1) ≤ (gI S 707 v1) → K p l e rX7_follow s m args below meth c 6 w 0 0 Q S 220 [(0, .ref v0), (1, .ref v1)] []) : K p l e rX7_follow s m args below meth c 6 w 0 0 Q S 206 [(0, .ref v0), (1, .ref v1)] [] := by
  refine k_aload_n B 0 rfl rfl dX7_follow_206 ?_
  refine k_getP (f := 513) (r := gP S 513 v0) B 8 1 rfl (by decide) rfl (by decide) rfl rfl (fun w h => in_of (uw_8 w h)) (in_of qfRX7_34) dX7_follow_207 h1 rfl ?_
  rw [h2]; change K _ _ _ _ _ _ _ _ _ _ _ _ _ _ _ _ _ _ (.ref x1 :: _)
  refine k_getI (f := 643) (v := gI S 643 x1) B 10 3 rfl (by decide) rfl (by decide) rfl rfl (fun w h => in_of (uw_10 w h)) (in_of qfRX7_88) dX7_follow_210 h3 rfl ?_
  refine k_aload_n B 1 rfl rfl dX7_follow_213 ?_
  refine k_getI (f := 707) (v := gI S 707 v1) B 11 3 rfl (by decide) rfl (by decide) rfl rfl (fun w h => in_of (uw_11 w h)) (in_of qfRX7_102) dX7_follow_214 h4 rfl ?_
  refine k_icmp_le (tgt := 235) B dX7_follow_217 (by decide) (fun c => ?_) (fun c => ?_)
  · refine k_sub [0] rfl ?_
    exact kt c
  · exact kf c
theorem bX7_follow_220 (B : Bd p s m args meth c cX7_follow 6 (wsOf yX7_follow cX7_follow 6 (some .int)) RX7 w (some .int) "follow") {v0 : Nat} {v1 : Nat} {x1 : Nat} {Q : State → Prop} (h1 : kd S v0 = 9) (h2 : gP S 513 v0 = some x1) (h3 : kd S x1 = 11) (h4 : kd S v1 = 12) (kk : K p l e rX7_follow s m args below meth c 6 w 0 0 Q S 236 [(0, .ref v0)] [.int ((gI S 643 x1) - (gI S 707 v1))]) : K p l e rX7_follow s m args below meth c 6 w 0 0 Q S 220 [(0, .ref v0), (1, .ref v1)] [] := by
  refine k_aload_n B 0 rfl rfl dX7_follow_220 ?_
  refine k_getP (f := 513) (r := gP S 513 v0) B 8 1 rfl (by decide) rfl (by decide) rfl rfl (fun w h => in_of (uw_8 w h)) (in_of qfRX7_34) dX7_follow_221 h1 rfl ?_
  rw [h2]; change K _ _ _ _ _ _ _ _ _ _ _ _ _ _ _ _ _ _ (.ref x1 :: _)
  refine k_getI (f := 643) (v := gI S 643 x1) B 10 3 rfl (by decide) rfl (by decide) rfl rfl (fun w h => in_of (uw_10 w h)) (in_of qfRX7_88) dX7_follow_224 h3 rfl ?_
  refine k_aload_n B 1 rfl rfl dX7_follow_227 ?_
  refine k_getI (f := 707) (v := gI S 707 v1) B 11 3 rfl (by decide) rfl (by decide) rfl rfl (fun w h => in_of (uw_11 w h)) (in_of qfRX7_102) dX7_follow_228 h4 rfl ?_
  refine k_isub B dX7_follow_231 ?_
  refine k_goto (tgt := 236) B dX7_follow_232 (by decide) ?_
  refine k_sub [0] rfl ?_
  exact kk
theorem bX7_follow_235 (B : Bd p s m args meth c cX7_follow 6 (wsOf yX7_follow cX7_follow 6 (some .int)) RX7 w (some .int) "follow") {v0 : Nat} {Q : State → Prop}  (kk : K p l e rX7_follow s m args below meth c 6 w 0 0 Q S 236 [(0, .ref v0)] [.int 0]) : K p l e rX7_follow s m args below meth c 6 w 0 0 Q S 235 [(0, .ref v0)] [] := by
  refine k_iconst (v := 0) B (by decide) dX7_follow_235 ?_
  exact kk
theorem bX7_follow_236 (B : Bd p s m args meth c cX7_follow 6 (wsOf yX7_follow cX7_follow 6 (some .int)) RX7 w (some .int) "follow") {v0 : Nat} {t0 : Int32} {x1 : Nat} {post : Int32 → St → Prop} (h1 : kd S v0 = 9) (h2 : gP S 513 v0 = some x1) (h3 : kd S x1 = 11) (hq : post (((gI S 644 x1) + (3 * (gI S 517 v0))) + (2 * t0)) S) : K p l e rX7_follow s m args below meth c 6 w 0 0 (MQ below (va_Qi post (fun S' t => Hd w S' t.heap) (wA w)) args s 0 0 (wA w)) S 236 [(0, .ref v0)] [.int t0] := by
  refine k_istore (lst' := [(4, .int t0), (0, .ref v0)]) B (by decide) rfl dX7_follow_236 ?_
  refine k_aload_n B 1 rfl rfl dX7_follow_238 ?_
  refine k_getP (f := 513) (r := gP S 513 v0) B 8 1 rfl (by decide) rfl (by decide) rfl rfl (fun w h => in_of (uw_8 w h)) (in_of qfRX7_34) dX7_follow_239 h1 rfl ?_
  rw [h2]; change K _ _ _ _ _ _ _ _ _ _ _ _ _ _ _ _ _ _ (.ref x1 :: _)
  refine k_getI (f := 644) (v := gI S 644 x1) B 10 4 rfl (by decide) rfl (by decide) rfl rfl (fun w h => in_of (uw_10 w h)) (in_of qfRX7_105) dX7_follow_242 h3 rfl ?_
  refine k_iconst (v := 3) B (by decide) dX7_follow_245 ?_
  refine k_aload_n B 1 rfl rfl dX7_follow_246 ?_
  refine k_getI (f := 517) (v := gI S 517 v0) B 8 5 rfl (by decide) rfl (by decide) rfl rfl (fun w h => in_of (uw_8 w h)) (in_of qfRX7_21) dX7_follow_247 h1 rfl ?_
  refine k_imul B dX7_follow_250 ?_
  refine k_iadd B dX7_follow_251 ?_
  refine k_iconst (v := 2) B (by decide) dX7_follow_252 ?_
  refine k_iload B 0 rfl dX7_follow_253 ?_
  refine k_imul B dX7_follow_255 ?_
  refine k_iadd B dX7_follow_256 ?_
  exact ret_I B rfl dX7_follow_257 (hq)
end BL
