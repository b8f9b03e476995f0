theorem dX0_init_0 : decode cX0_init 0 = .ok (.aload_n 0, 1) := by decide +kernel
theorem dX0_init_1 : decode cX0_init 1 = .ok (.invokespecial 1, 3) := by decide +kernel
theorem dX0_init_4 : decode cX0_init 4 = .ok (.aload_n 0, 1) := by decide +kernel
theorem dX0_init_5 : decode cX0_init 5 = .ok (.iconst 0, 1) := by decide +kernel
theorem dX0_init_6 : decode cX0_init 6 = .ok (.putfield 7, 3) := by decide +kernel
theorem dX0_init_9 : decode cX0_init 9 = .ok (.aload_n 0, 1) := by decide +kernel
theorem dX0_init_10 : decode cX0_init 10 = .ok (.iconst (-1), 1) := by decide +kernel
theorem dX0_init_11 : decode cX0_init 11 = .ok (.putfield 13, 3) := by decide +kernel
theorem dX0_init_14 : decode cX0_init 14 = .ok (.aload_n 0, 1) := by decide +kernel
theorem dX0_init_15 : decode cX0_init 15 = .ok (.aconst_null, 1) := by decide +kernel
theorem dX0_init_16 : decode cX0_init 16 = .ok (.putfield 16, 3) := by decide +kernel
theorem dX0_init_19 : decode cX0_init 19 = .ok (.return_, 1) := by decide +kernel
theorem dX0_forget_0 : decode cX0_forget 0 = .ok (.aload_n 0, 1) := by decide +kernel
theorem dX0_forget_1 : decode cX0_forget 1 = .ok (.aconst_null, 1) := by decide +kernel
theorem dX0_forget_2 : decode cX0_forget 2 = .ok (.putfield 16, 3) := by decide +kernel
theorem dX0_forget_5 : decode cX0_forget 5 = .ok (.return_, 1) := by decide +kernel
theorem dX0_weigh_0 : decode cX0_weigh 0 = .ok (.aload_n 0, 1) := by decide +kernel
theorem dX0_weigh_1 : decode cX0_weigh 1 = .ok (.getfield 16, 3) := by decide +kernel
theorem dX0_weigh_4 : decode cX0_weigh 4 = .ok (.ifnull 11, 3) := by decide +kernel
theorem dX0_weigh_7 : decode cX0_weigh 7 = .ok (.iload_n 1, 1) := by decide +kernel
theorem dX0_weigh_8 : decode cX0_weigh 8 = .ok (.aload_n 0, 1) := by decide +kernel
theorem dX0_weigh_9 : decode cX0_weigh 9 = .ok (.getfield 7, 3) := by decide +kernel
theorem dX0_weigh_12 : decode cX0_weigh 12 = .ok (.if_icmp .ge 18, 3) := by decide +kernel
theorem dX0_weigh_15 : decode cX0_weigh 15 = .ok (.aload_n 0, 1) := by decide +kernel
theorem dX0_weigh_16 : decode cX0_weigh 16 = .ok (.iload_n 1, 1) := by decide +kernel
theorem dX0_weigh_17 : decode cX0_weigh 17 = .ok (.putfield 7, 3) := by decide +kernel
theorem dX0_weigh_20 : decode cX0_weigh 20 = .ok (.aload_n 0, 1) := by decide +kernel
theorem dX0_weigh_21 : decode cX0_weigh 21 = .ok (.aload_n 2, 1) := by decide +kernel
theorem dX0_weigh_22 : decode cX0_weigh 22 = .ok (.putfield 16, 3) := by decide +kernel
theorem dX0_weigh_25 : decode cX0_weigh 25 = .ok (.aload_n 0, 1) := by decide +kernel
theorem dX0_weigh_26 : decode cX0_weigh 26 = .ok (.iload_n 3, 1) := by decide +kernel
theorem dX0_weigh_27 : decode cX0_weigh 27 = .ok (.putfield 13, 3) := by decide +kernel
theorem dX0_weigh_30 : decode cX0_weigh 30 = .ok (.return_, 1) := by decide +kernel
theorem dX1_init_0 : decode cX1_init 0 = .ok (.aload_n 0, 1) := by decide +kernel
theorem dX1_init_1 : decode cX1_init 1 = .ok (.invokespecial 3, 3) := by decide +kernel
theorem dX1_init_4 : decode cX1_init 4 = .ok (.aload_n 0, 1) := by decide +kernel
theorem dX1_init_5 : decode cX1_init 5 = .ok (.iconst 3, 1) := by decide +kernel
theorem dX1_init_6 : decode cX1_init 6 = .ok (.newarray .int, 2) := by decide +kernel
theorem dX1_init_8 : decode cX1_init 8 = .ok (.putfield 9, 3) := by decide +kernel
theorem dX1_init_11 : decode cX1_init 11 = .ok (.aload_n 0, 1) := by decide +kernel
theorem dX1_init_12 : decode cX1_init 12 = .ok (.iconst 0, 1) := by decide +kernel
theorem dX1_init_13 : decode cX1_init 13 = .ok (.putfield 15, 3) := by decide +kernel
theorem dX1_init_16 : decode cX1_init 16 = .ok (.aload_n 0, 1) := by decide +kernel
theorem dX1_init_17 : decode cX1_init 17 = .ok (.aload_n 1, 1) := by decide +kernel
theorem dX1_init_18 : decode cX1_init 18 = .ok (.putfield 19, 3) := by decide +kernel
theorem dX1_init_21 : decode cX1_init 21 = .ok (.aload_n 0, 1) := by decide +kernel
theorem dX1_init_22 : decode cX1_init 22 = .ok (.iload_n 2, 1) := by decide +kernel
theorem dX1_init_23 : decode cX1_init 23 = .ok (.putfield 23, 3) := by decide +kernel
theorem dX1_init_26 : decode cX1_init 26 = .ok (.return_, 1) := by decide +kernel
theorem dX1_isSomebodyIn_0 : decode cX1_isSomebodyIn 0 = .ok (.aload_n 0, 1) := by decide +kernel
theorem dX1_isSomebodyIn_1 : decode cX1_isSomebodyIn 1 = .ok (.getfield 23, 3) := by decide +kernel
theorem dX1_isSomebodyIn_4 : decode cX1_isSomebodyIn 4 = .ok (.iload_n 1, 1) := by decide +kernel
theorem dX1_isSomebodyIn_5 : decode cX1_isSomebodyIn 5 = .ok (.invokestatic 26, 3) := by decide +kernel
theorem dX1_isSomebodyIn_8 : decode cX1_isSomebodyIn 8 = .ok (.ishr, 1) := by decide +kernel
theorem dX1_isSomebodyIn_9 : decode cX1_isSomebodyIn 9 = .ok (.iconst 1, 1) := by decide +kernel
theorem dX1_isSomebodyIn_10 : decode cX1_isSomebodyIn 10 = .ok (.iand, 1) := by decide +kernel
theorem dX1_isSomebodyIn_11 : decode cX1_isSomebodyIn 11 = .ok (.iconst 1, 1) := by decide +kernel
theorem dX1_isSomebodyIn_12 : decode cX1_isSomebodyIn 12 = .ok (.if_icmp .ne 7, 3) := by decide +kernel
theorem dX1_isSomebodyIn_15 : decode cX1_isSomebodyIn 15 = .ok (.iconst 1, 1) := by decide +kernel
theorem dX1_isSomebodyIn_16 : decode cX1_isSomebodyIn 16 = .ok (.goto 4, 3) := by decide +kernel
theorem dX1_isSomebodyIn_19 : decode cX1_isSomebodyIn 19 = .ok (.iconst 0, 1) := by decide +kernel
theorem dX1_isSomebodyIn_20 : decode cX1_isSomebodyIn 20 = .ok (.ireturn, 1) := by decide +kernel
theorem dX1_hoursFrom_0 : decode cX1_hoursFrom 0 = .ok (.iconst 0, 1) := by decide +kernel
theorem dX1_hoursFrom_1 : decode cX1_hoursFrom 1 = .ok (.istore_n 2, 1) := by decide +kernel
theorem dX1_hoursFrom_2 : decode cX1_hoursFrom 2 = .ok (.iload_n 1, 1) := by decide +kernel
theorem dX1_hoursFrom_3 : decode cX1_hoursFrom 3 = .ok (.istore_n 3, 1) := by decide +kernel
theorem dX1_hoursFrom_4 : decode cX1_hoursFrom 4 = .ok (.iload_n 3, 1) := by decide +kernel
theorem dX1_hoursFrom_5 : decode cX1_hoursFrom 5 = .ok (.bipush 24, 2) := by decide +kernel
theorem dX1_hoursFrom_7 : decode cX1_hoursFrom 7 = .ok (.if_icmp .ge 24, 3) := by decide +kernel
theorem dX1_hoursFrom_10 : decode cX1_hoursFrom 10 = .ok (.aload_n 0, 1) := by decide +kernel
theorem dX1_hoursFrom_11 : decode cX1_hoursFrom 11 = .ok (.getfield 23, 3) := by decide +kernel
theorem dX1_hoursFrom_14 : decode cX1_hoursFrom 14 = .ok (.iload_n 3, 1) := by decide +kernel
theorem dX1_hoursFrom_15 : decode cX1_hoursFrom 15 = .ok (.ishr, 1) := by decide +kernel
theorem dX1_hoursFrom_16 : decode cX1_hoursFrom 16 = .ok (.iconst 1, 1) := by decide +kernel
theorem dX1_hoursFrom_17 : decode cX1_hoursFrom 17 = .ok (.iand, 1) := by decide +kernel
theorem dX1_hoursFrom_18 : decode cX1_hoursFrom 18 = .ok (.iconst 1, 1) := by decide +kernel
theorem dX1_hoursFrom_19 : decode cX1_hoursFrom 19 = .ok (.if_icmp .ne 12, 3) := by decide +kernel
theorem dX1_hoursFrom_22 : decode cX1_hoursFrom 22 = .ok (.iinc 2 1, 3) := by decide +kernel
theorem dX1_hoursFrom_25 : decode cX1_hoursFrom 25 = .ok (.iinc 3 1, 3) := by decide +kernel
theorem dX1_hoursFrom_28 : decode cX1_hoursFrom 28 = .ok (.goto (-24), 3) := by decide +kernel
theorem dX1_hoursFrom_31 : decode cX1_hoursFrom 31 = .ok (.iload_n 2, 1) := by decide +kernel
theorem dX1_hoursFrom_32 : decode cX1_hoursFrom 32 = .ok (.ireturn, 1) := by decide +kernel
theorem dX2_init_0 : decode cX2_init 0 = .ok (.aload_n 0, 1) := by decide +kernel
theorem dX2_init_1 : decode cX2_init 1 = .ok (.invokespecial 3, 3) := by decide +kernel
theorem dX2_init_4 : decode cX2_init 4 = .ok (.aload_n 0, 1) := by decide +kernel
theorem dX2_init_5 : decode cX2_init 5 = .ok (.iconst 3, 1) := by decide +kernel
theorem dX2_init_6 : decode cX2_init 6 = .ok (.newarray .int, 2) := by decide +kernel
theorem dX2_init_8 : decode cX2_init 8 = .ok (.putfield 9, 3) := by decide +kernel
theorem dX2_init_11 : decode cX2_init 11 = .ok (.aload_n 0, 1) := by decide +kernel
theorem dX2_init_12 : decode cX2_init 12 = .ok (.iconst 3, 1) := by decide +kernel
theorem dX2_init_13 : decode cX2_init 13 = .ok (.newarray .int, 2) := by decide +kernel
theorem dX2_init_15 : decode cX2_init 15 = .ok (.putfield 15, 3) := by decide +kernel
theorem dX2_init_18 : decode cX2_init 18 = .ok (.aload_n 0, 1) := by decide +kernel
theorem dX2_init_19 : decode cX2_init 19 = .ok (.aload_n 1, 1) := by decide +kernel
theorem dX2_init_20 : decode cX2_init 20 = .ok (.putfield 18, 3) := by decide +kernel
theorem dX2_init_23 : decode cX2_init 23 = .ok (.aload_n 0, 1) := by decide +kernel
theorem dX2_init_24 : decode cX2_init 24 = .ok (.getfield 9, 3) := by decide +kernel
theorem dX2_init_27 : decode cX2_init 27 = .ok (.iconst 0, 1) := by decide +kernel
theorem dX2_init_28 : decode cX2_init 28 = .ok (.iload_n 2, 1) := by decide +kernel
theorem dX2_init_29 : decode cX2_init 29 = .ok (.iastore, 1) := by decide +kernel
theorem dX2_init_30 : decode cX2_init 30 = .ok (.aload_n 0, 1) := by decide +kernel
theorem dX2_init_31 : decode cX2_init 31 = .ok (.getfield 9, 3) := by decide +kernel
theorem dX2_init_34 : decode cX2_init 34 = .ok (.iconst 1, 1) := by decide +kernel
theorem dX2_init_35 : decode cX2_init 35 = .ok (.iload_n 3, 1) := by decide +kernel
theorem dX2_init_36 : decode cX2_init 36 = .ok (.iastore, 1) := by decide +kernel
theorem dX2_init_37 : decode cX2_init 37 = .ok (.aload_n 0, 1) := by decide +kernel
theorem dX2_init_38 : decode cX2_init 38 = .ok (.getfield 9, 3) := by decide +kernel
theorem dX2_init_41 : decode cX2_init 41 = .ok (.iconst 2, 1) := by decide +kernel
theorem dX2_init_42 : decode cX2_init 42 = .ok (.iload 4, 2) := by decide +kernel
theorem dX2_init_44 : decode cX2_init 44 = .ok (.iastore, 1) := by decide +kernel
theorem dX2_init_45 : decode cX2_init 45 = .ok (.return_, 1) := by decide +kernel
theorem dX2_boxFor_0 : decode cX2_boxFor 0 = .ok (.iconst 0, 1) := by decide +kernel
theorem dX2_boxFor_1 : decode cX2_boxFor 1 = .ok (.istore_n 2, 1) := by decide +kernel
theorem dX2_boxFor_2 : decode cX2_boxFor 2 = .ok (.iload_n 2, 1) := by decide +kernel
theorem dX2_boxFor_3 : decode cX2_boxFor 3 = .ok (.iconst 3, 1) := by decide +kernel
theorem dX2_boxFor_4 : decode cX2_boxFor 4 = .ok (.if_icmp .ge 29, 3) := by decide +kernel
theorem dX2_boxFor_7 : decode cX2_boxFor 7 = .ok (.iload_n 1, 1) := by decide +kernel
theorem dX2_boxFor_8 : decode cX2_boxFor 8 = .ok (.getstatic 22, 3) := by decide +kernel
theorem dX2_boxFor_11 : decode cX2_boxFor 11 = .ok (.iload_n 2, 1) := by decide +kernel
theorem dX2_boxFor_12 : decode cX2_boxFor 12 = .ok (.iaload, 1) := by decide +kernel
theorem dX2_boxFor_13 : decode cX2_boxFor 13 = .ok (.if_icmp .gt 14, 3) := by decide +kernel
theorem dX2_boxFor_16 : decode cX2_boxFor 16 = .ok (.aload_n 0, 1) := by decide +kernel
theorem dX2_boxFor_17 : decode cX2_boxFor 17 = .ok (.getfield 9, 3) := by decide +kernel
theorem dX2_boxFor_20 : decode cX2_boxFor 20 = .ok (.iload_n 2, 1) := by decide +kernel
theorem dX2_boxFor_21 : decode cX2_boxFor 21 = .ok (.iaload, 1) := by decide +kernel
theorem dX2_boxFor_22 : decode cX2_boxFor 22 = .ok (.ifCond .le 5, 3) := by decide +kernel
theorem dX2_boxFor_25 : decode cX2_boxFor 25 = .ok (.iload_n 2, 1) := by decide +kernel
theorem dX2_boxFor_26 : decode cX2_boxFor 26 = .ok (.ireturn, 1) := by decide +kernel
theorem dX2_boxFor_27 : decode cX2_boxFor 27 = .ok (.iinc 2 1, 3) := by decide +kernel
theorem dX2_boxFor_30 : decode cX2_boxFor 30 = .ok (.goto (-28), 3) := by decide +kernel
theorem dX2_boxFor_33 : decode cX2_boxFor 33 = .ok (.iconst (-1), 1) := by decide +kernel
theorem dX2_boxFor_34 : decode cX2_boxFor 34 = .ok (.ireturn, 1) := by decide +kernel
theorem dX2_keep_0 : decode cX2_keep 0 = .ok (.aload_n 0, 1) := by decide +kernel
theorem dX2_keep_1 : decode cX2_keep 1 = .ok (.getfield 9, 3) := by decide +kernel
theorem dX2_keep_4 : decode cX2_keep 4 = .ok (.iconst 0, 1) := by decide +kernel
theorem dX2_keep_5 : decode cX2_keep 5 = .ok (.aload_n 0, 1) := by decide +kernel
theorem dX2_keep_6 : decode cX2_keep 6 = .ok (.getfield 15, 3) := by decide +kernel
theorem dX2_keep_9 : decode cX2_keep 9 = .ok (.iconst 0, 1) := by decide +kernel
theorem dX2_keep_10 : decode cX2_keep 10 = .ok (.iconst 3, 1) := by decide +kernel
theorem dX2_keep_11 : decode cX2_keep 11 = .ok (.invokestatic 25, 3) := by decide +kernel
theorem dX2_keep_14 : decode cX2_keep 14 = .ok (.return_, 1) := by decide +kernel
theorem dX2_giveBack_0 : decode cX2_giveBack 0 = .ok (.aload_n 0, 1) := by decide +kernel
theorem dX2_giveBack_1 : decode cX2_giveBack 1 = .ok (.getfield 15, 3) := by decide +kernel
theorem dX2_giveBack_4 : decode cX2_giveBack 4 = .ok (.iconst 0, 1) := by decide +kernel
theorem dX2_giveBack_5 : decode cX2_giveBack 5 = .ok (.aload_n 0, 1) := by decide +kernel
theorem dX2_giveBack_6 : decode cX2_giveBack 6 = .ok (.getfield 9, 3) := by decide +kernel
theorem dX2_giveBack_9 : decode cX2_giveBack 9 = .ok (.iconst 0, 1) := by decide +kernel
theorem dX2_giveBack_10 : decode cX2_giveBack 10 = .ok (.iconst 3, 1) := by decide +kernel
theorem dX2_giveBack_11 : decode cX2_giveBack 11 = .ok (.invokestatic 25, 3) := by decide +kernel
theorem dX2_giveBack_14 : decode cX2_giveBack 14 = .ok (.return_, 1) := by decide +kernel
theorem dX3_init_0 : decode cX3_init 0 = .ok (.aload_n 0, 1) := by decide +kernel
theorem dX3_init_1 : decode cX3_init 1 = .ok (.invokespecial 3, 3) := by decide +kernel
theorem dX3_init_4 : decode cX3_init 4 = .ok (.aload_n 0, 1) := by decide +kernel
theorem dX3_init_5 : decode cX3_init 5 = .ok (.aconst_null, 1) := by decide +kernel
theorem dX3_init_6 : decode cX3_init 6 = .ok (.putfield 9, 3) := by decide +kernel
theorem dX3_init_9 : decode cX3_init 9 = .ok (.aload_n 0, 1) := by decide +kernel
theorem dX3_init_10 : decode cX3_init 10 = .ok (.iconst 0, 1) := by decide +kernel
theorem dX3_init_11 : decode cX3_init 11 = .ok (.putfield 15, 3) := by decide +kernel
theorem dX3_init_14 : decode cX3_init 14 = .ok (.aload_n 0, 1) := by decide +kernel
theorem dX3_init_15 : decode cX3_init 15 = .ok (.iconst 0, 1) := by decide +kernel
theorem dX3_init_16 : decode cX3_init 16 = .ok (.putfield 19, 3) := by decide +kernel
theorem dX3_init_19 : decode cX3_init 19 = .ok (.aload_n 0, 1) := by decide +kernel
theorem dX3_init_20 : decode cX3_init 20 = .ok (.iconst (-1), 1) := by decide +kernel
theorem dX3_init_21 : decode cX3_init 21 = .ok (.putfield 22, 3) := by decide +kernel
theorem dX3_init_24 : decode cX3_init 24 = .ok (.aload_n 0, 1) := by decide +kernel
theorem dX3_init_25 : decode cX3_init 25 = .ok (.iconst (-1), 1) := by decide +kernel
theorem dX3_init_26 : decode cX3_init 26 = .ok (.putfield 25, 3) := by decide +kernel
theorem dX3_init_29 : decode cX3_init 29 = .ok (.aload_n 0, 1) := by decide +kernel
theorem dX3_init_30 : decode cX3_init 30 = .ok (.iconst 0, 1) := by decide +kernel
theorem dX3_init_31 : decode cX3_init 31 = .ok (.putfield 28, 3) := by decide +kernel
theorem dX3_init_34 : decode cX3_init 34 = .ok (.aload_n 0, 1) := by decide +kernel
theorem dX3_init_35 : decode cX3_init 35 = .ok (.iconst 5, 1) := by decide +kernel
theorem dX3_init_36 : decode cX3_init 36 = .ok (.newarray .int, 2) := by decide +kernel
theorem dX3_init_38 : decode cX3_init 38 = .ok (.putfield 31, 3) := by decide +kernel
theorem dX3_init_41 : decode cX3_init 41 = .ok (.aload_n 0, 1) := by decide +kernel
theorem dX3_init_42 : decode cX3_init 42 = .ok (.iload_n 1, 1) := by decide +kernel
theorem dX3_init_43 : decode cX3_init 43 = .ok (.putfield 35, 3) := by decide +kernel
theorem dX3_init_46 : decode cX3_init 46 = .ok (.aload_n 0, 1) := by decide +kernel
theorem dX3_init_47 : decode cX3_init 47 = .ok (.iload_n 2, 1) := by decide +kernel
theorem dX3_init_48 : decode cX3_init 48 = .ok (.putfield 38, 3) := by decide +kernel
theorem dX3_init_51 : decode cX3_init 51 = .ok (.aload_n 0, 1) := by decide +kernel
theorem dX3_init_52 : decode cX3_init 52 = .ok (.iload_n 3, 1) := by decide +kernel
theorem dX3_init_53 : decode cX3_init 53 = .ok (.putfield 41, 3) := by decide +kernel
theorem dX3_init_56 : decode cX3_init 56 = .ok (.aload_n 0, 1) := by decide +kernel
theorem dX3_init_57 : decode cX3_init 57 = .ok (.iload 4, 2) := by decide +kernel
theorem dX3_init_59 : decode cX3_init 59 = .ok (.putfield 44, 3) := by decide +kernel
theorem dX3_init_62 : decode cX3_init 62 = .ok (.aload_n 0, 1) := by decide +kernel
theorem dX3_init_63 : decode cX3_init 63 = .ok (.aload 5, 2) := by decide +kernel
theorem dX3_init_65 : decode cX3_init 65 = .ok (.putfield 47, 3) := by decide +kernel
theorem dX3_init_68 : decode cX3_init 68 = .ok (.aload_n 0, 1) := by decide +kernel
theorem dX3_init_69 : decode cX3_init 69 = .ok (.iload 6, 2) := by decide +kernel
theorem dX3_init_71 : decode cX3_init 71 = .ok (.putfield 51, 3) := by decide +kernel
theorem dX3_init_74 : decode cX3_init 74 = .ok (.aload_n 0, 1) := by decide +kernel
theorem dX3_init_75 : decode cX3_init 75 = .ok (.iload 7, 2) := by decide +kernel
theorem dX3_init_77 : decode cX3_init 77 = .ok (.putfield 54, 3) := by decide +kernel
theorem dX3_init_80 : decode cX3_init 80 = .ok (.return_, 1) := by decide +kernel
theorem dX3_keep_0 : decode cX3_keep 0 = .ok (.aload_n 0, 1) := by decide +kernel
theorem dX3_keep_1 : decode cX3_keep 1 = .ok (.getfield 31, 3) := by decide +kernel
theorem dX3_keep_4 : decode cX3_keep 4 = .ok (.iconst 0, 1) := by decide +kernel
theorem dX3_keep_5 : decode cX3_keep 5 = .ok (.aload_n 0, 1) := by decide +kernel
theorem dX3_keep_6 : decode cX3_keep 6 = .ok (.getfield 15, 3) := by decide +kernel
theorem dX3_keep_9 : decode cX3_keep 9 = .ok (.iastore, 1) := by decide +kernel
theorem dX3_keep_10 : decode cX3_keep 10 = .ok (.aload_n 0, 1) := by decide +kernel
theorem dX3_keep_11 : decode cX3_keep 11 = .ok (.getfield 31, 3) := by decide +kernel
theorem dX3_keep_14 : decode cX3_keep 14 = .ok (.iconst 1, 1) := by decide +kernel
theorem dX3_keep_15 : decode cX3_keep 15 = .ok (.aload_n 0, 1) := by decide +kernel
theorem dX3_keep_16 : decode cX3_keep 16 = .ok (.getfield 19, 3) := by decide +kernel
theorem dX3_keep_19 : decode cX3_keep 19 = .ok (.iastore, 1) := by decide +kernel
theorem dX3_keep_20 : decode cX3_keep 20 = .ok (.aload_n 0, 1) := by decide +kernel
theorem dX3_keep_21 : decode cX3_keep 21 = .ok (.getfield 31, 3) := by decide +kernel
theorem dX3_keep_24 : decode cX3_keep 24 = .ok (.iconst 2, 1) := by decide +kernel
theorem dX3_keep_25 : decode cX3_keep 25 = .ok (.aload_n 0, 1) := by decide +kernel
theorem dX3_keep_26 : decode cX3_keep 26 = .ok (.getfield 22, 3) := by decide +kernel
theorem dX3_keep_29 : decode cX3_keep 29 = .ok (.iastore, 1) := by decide +kernel
theorem dX3_keep_30 : decode cX3_keep 30 = .ok (.aload_n 0, 1) := by decide +kernel
theorem dX3_keep_31 : decode cX3_keep 31 = .ok (.getfield 31, 3) := by decide +kernel
theorem dX3_keep_34 : decode cX3_keep 34 = .ok (.iconst 3, 1) := by decide +kernel
theorem dX3_keep_35 : decode cX3_keep 35 = .ok (.aload_n 0, 1) := by decide +kernel
theorem dX3_keep_36 : decode cX3_keep 36 = .ok (.getfield 25, 3) := by decide +kernel
theorem dX3_keep_39 : decode cX3_keep 39 = .ok (.iastore, 1) := by decide +kernel
theorem dX3_keep_40 : decode cX3_keep 40 = .ok (.aload_n 0, 1) := by decide +kernel
theorem dX3_keep_41 : decode cX3_keep 41 = .ok (.getfield 31, 3) := by decide +kernel
theorem dX3_keep_44 : decode cX3_keep 44 = .ok (.iconst 4, 1) := by decide +kernel
theorem dX3_keep_45 : decode cX3_keep 45 = .ok (.aload_n 0, 1) := by decide +kernel
theorem dX3_keep_46 : decode cX3_keep 46 = .ok (.getfield 28, 3) := by decide +kernel
theorem dX3_keep_49 : decode cX3_keep 49 = .ok (.iastore, 1) := by decide +kernel
theorem dX3_keep_50 : decode cX3_keep 50 = .ok (.return_, 1) := by decide +kernel
theorem dX3_giveBack_0 : decode cX3_giveBack 0 = .ok (.aload_n 0, 1) := by decide +kernel
theorem dX3_giveBack_1 : decode cX3_giveBack 1 = .ok (.aload_n 0, 1) := by decide +kernel
theorem dX3_giveBack_2 : decode cX3_giveBack 2 = .ok (.getfield 31, 3) := by decide +kernel
theorem dX3_giveBack_5 : decode cX3_giveBack 5 = .ok (.iconst 0, 1) := by decide +kernel
theorem dX3_giveBack_6 : decode cX3_giveBack 6 = .ok (.iaload, 1) := by decide +kernel
theorem dX3_giveBack_7 : decode cX3_giveBack 7 = .ok (.putfield 15, 3) := by decide +kernel
theorem dX3_giveBack_10 : decode cX3_giveBack 10 = .ok (.aload_n 0, 1) := by decide +kernel
theorem dX3_giveBack_11 : decode cX3_giveBack 11 = .ok (.aload_n 0, 1) := by decide +kernel
theorem dX3_giveBack_12 : decode cX3_giveBack 12 = .ok (.getfield 31, 3) := by decide +kernel
theorem dX3_giveBack_15 : decode cX3_giveBack 15 = .ok (.iconst 1, 1) := by decide +kernel
theorem dX3_giveBack_16 : decode cX3_giveBack 16 = .ok (.iaload, 1) := by decide +kernel
theorem dX3_giveBack_17 : decode cX3_giveBack 17 = .ok (.putfield 19, 3) := by decide +kernel
theorem dX3_giveBack_20 : decode cX3_giveBack 20 = .ok (.aload_n 0, 1) := by decide +kernel
theorem dX3_giveBack_21 : decode cX3_giveBack 21 = .ok (.aload_n 0, 1) := by decide +kernel
theorem dX3_giveBack_22 : decode cX3_giveBack 22 = .ok (.getfield 31, 3) := by decide +kernel
theorem dX3_giveBack_25 : decode cX3_giveBack 25 = .ok (.iconst 2, 1) := by decide +kernel
theorem dX3_giveBack_26 : decode cX3_giveBack 26 = .ok (.iaload, 1) := by decide +kernel
theorem dX3_giveBack_27 : decode cX3_giveBack 27 = .ok (.putfield 22, 3) := by decide +kernel
theorem dX3_giveBack_30 : decode cX3_giveBack 30 = .ok (.aload_n 0, 1) := by decide +kernel
theorem dX3_giveBack_31 : decode cX3_giveBack 31 = .ok (.aload_n 0, 1) := by decide +kernel
theorem dX3_giveBack_32 : decode cX3_giveBack 32 = .ok (.getfield 31, 3) := by decide +kernel
theorem dX3_giveBack_35 : decode cX3_giveBack 35 = .ok (.iconst 3, 1) := by decide +kernel
theorem dX3_giveBack_36 : decode cX3_giveBack 36 = .ok (.iaload, 1) := by decide +kernel
theorem dX3_giveBack_37 : decode cX3_giveBack 37 = .ok (.putfield 25, 3) := by decide +kernel
theorem dX3_giveBack_40 : decode cX3_giveBack 40 = .ok (.aload_n 0, 1) := by decide +kernel
theorem dX3_giveBack_41 : decode cX3_giveBack 41 = .ok (.aload_n 0, 1) := by decide +kernel
theorem dX3_giveBack_42 : decode cX3_giveBack 42 = .ok (.getfield 31, 3) := by decide +kernel
theorem dX3_giveBack_45 : decode cX3_giveBack 45 = .ok (.iconst 4, 1) := by decide +kernel
theorem dX3_giveBack_46 : decode cX3_giveBack 46 = .ok (.iaload, 1) := by decide +kernel
theorem dX3_giveBack_47 : decode cX3_giveBack 47 = .ok (.putfield 28, 3) := by decide +kernel
theorem dX3_giveBack_50 : decode cX3_giveBack 50 = .ok (.return_, 1) := by decide +kernel
theorem dX4_init_0 : decode cX4_init 0 = .ok (.aload_n 0, 1) := by decide +kernel
theorem dX4_init_1 : decode cX4_init 1 = .ok (.invokespecial 1, 3) := by decide +kernel
theorem dX4_init_4 : decode cX4_init 4 = .ok (.aload_n 0, 1) := by decide +kernel
theorem dX4_init_5 : decode cX4_init 5 = .ok (.iload_n 1, 1) := by decide +kernel
theorem dX4_init_6 : decode cX4_init 6 = .ok (.putfield 7, 3) := by decide +kernel
theorem dX4_init_9 : decode cX4_init 9 = .ok (.aload_n 0, 1) := by decide +kernel
theorem dX4_init_10 : decode cX4_init 10 = .ok (.iload_n 2, 1) := by decide +kernel
theorem dX4_init_11 : decode cX4_init 11 = .ok (.putfield 13, 3) := by decide +kernel
theorem dX4_init_14 : decode cX4_init 14 = .ok (.return_, 1) := by decide +kernel
theorem dX4_distanceTo_0 : decode cX4_distanceTo 0 = .ok (.aload_n 0, 1) := by decide +kernel
theorem dX4_distanceTo_1 : decode cX4_distanceTo 1 = .ok (.getfield 7, 3) := by decide +kernel
theorem dX4_distanceTo_4 : decode cX4_distanceTo 4 = .ok (.aload_n 1, 1) := by decide +kernel
theorem dX4_distanceTo_5 : decode cX4_distanceTo 5 = .ok (.getfield 7, 3) := by decide +kernel
theorem dX4_distanceTo_8 : decode cX4_distanceTo 8 = .ok (.isub, 1) := by decide +kernel
theorem dX4_distanceTo_9 : decode cX4_distanceTo 9 = .ok (.istore_n 2, 1) := by decide +kernel
theorem dX4_distanceTo_10 : decode cX4_distanceTo 10 = .ok (.aload_n 0, 1) := by decide +kernel
theorem dX4_distanceTo_11 : decode cX4_distanceTo 11 = .ok (.getfield 13, 3) := by decide +kernel
theorem dX4_distanceTo_14 : decode cX4_distanceTo 14 = .ok (.aload_n 1, 1) := by decide +kernel
theorem dX4_distanceTo_15 : decode cX4_distanceTo 15 = .ok (.getfield 13, 3) := by decide +kernel
theorem dX4_distanceTo_18 : decode cX4_distanceTo 18 = .ok (.isub, 1) := by decide +kernel
theorem dX4_distanceTo_19 : decode cX4_distanceTo 19 = .ok (.istore_n 3, 1) := by decide +kernel
theorem dX4_distanceTo_20 : decode cX4_distanceTo 20 = .ok (.iload_n 2, 1) := by decide +kernel
theorem dX4_distanceTo_21 : decode cX4_distanceTo 21 = .ok (.ifCond .ge 8, 3) := by decide +kernel
theorem dX4_distanceTo_24 : decode cX4_distanceTo 24 = .ok (.iload_n 2, 1) := by decide +kernel
theorem dX4_distanceTo_25 : decode cX4_distanceTo 25 = .ok (.ineg, 1) := by decide +kernel
theorem dX4_distanceTo_26 : decode cX4_distanceTo 26 = .ok (.goto 4, 3) := by decide +kernel
theorem dX4_distanceTo_29 : decode cX4_distanceTo 29 = .ok (.iload_n 2, 1) := by decide +kernel
theorem dX4_distanceTo_30 : decode cX4_distanceTo 30 = .ok (.iload_n 3, 1) := by decide +kernel
theorem dX4_distanceTo_31 : decode cX4_distanceTo 31 = .ok (.ifCond .ge 8, 3) := by decide +kernel
theorem dX4_distanceTo_34 : decode cX4_distanceTo 34 = .ok (.iload_n 3, 1) := by decide +kernel
theorem dX4_distanceTo_35 : decode cX4_distanceTo 35 = .ok (.ineg, 1) := by decide +kernel
theorem dX4_distanceTo_36 : decode cX4_distanceTo 36 = .ok (.goto 4, 3) := by decide +kernel
theorem dX4_distanceTo_39 : decode cX4_distanceTo 39 = .ok (.iload_n 3, 1) := by decide +kernel
theorem dX4_distanceTo_40 : decode cX4_distanceTo 40 = .ok (.iadd, 1) := by decide +kernel
theorem dX4_distanceTo_41 : decode cX4_distanceTo 41 = .ok (.ireturn, 1) := by decide +kernel
theorem dX6_init_0 : decode cX6_init 0 = .ok (.aload_n 0, 1) := by decide +kernel
theorem dX6_init_1 : decode cX6_init 1 = .ok (.invokespecial 3, 3) := by decide +kernel
theorem dX6_init_4 : decode cX6_init 4 = .ok (.aload_n 0, 1) := by decide +kernel
theorem dX6_init_5 : decode cX6_init 5 = .ok (.bipush 13, 2) := by decide +kernel
theorem dX6_init_7 : decode cX6_init 7 = .ok (.anewarray 9, 3) := by decide +kernel
theorem dX6_init_10 : decode cX6_init 10 = .ok (.putfield 11, 3) := by decide +kernel
theorem dX6_init_13 : decode cX6_init 13 = .ok (.aload_n 0, 1) := by decide +kernel
theorem dX6_init_14 : decode cX6_init 14 = .ok (.iconst 0, 1) := by decide +kernel
theorem dX6_init_15 : decode cX6_init 15 = .ok (.putfield 17, 3) := by decide +kernel
theorem dX6_init_18 : decode cX6_init 18 = .ok (.return_, 1) := by decide +kernel
theorem dX6_at_0 : decode cX6_at 0 = .ok (.aload_n 0, 1) := by decide +kernel
theorem dX6_at_1 : decode cX6_at 1 = .ok (.getfield 11, 3) := by decide +kernel
theorem dX6_at_4 : decode cX6_at 4 = .ok (.iload_n 1, 1) := by decide +kernel
theorem dX6_at_5 : decode cX6_at 5 = .ok (.aaload, 1) := by decide +kernel
theorem dX6_at_6 : decode cX6_at 6 = .ok (.areturn, 1) := by decide +kernel
theorem dX6_copy_0 : decode cX6_copy 0 = .ok (.aload_n 0, 1) := by decide +kernel
theorem dX6_copy_1 : decode cX6_copy 1 = .ok (.aload_n 1, 1) := by decide +kernel
theorem dX6_copy_2 : decode cX6_copy 2 = .ok (.getfield 17, 3) := by decide +kernel
theorem dX6_copy_5 : decode cX6_copy 5 = .ok (.putfield 17, 3) := by decide +kernel
theorem dX6_copy_8 : decode cX6_copy 8 = .ok (.iconst 0, 1) := by decide +kernel
theorem dX6_copy_9 : decode cX6_copy 9 = .ok (.istore_n 2, 1) := by decide +kernel
theorem dX6_copy_10 : decode cX6_copy 10 = .ok (.iload_n 2, 1) := by decide +kernel
theorem dX6_copy_11 : decode cX6_copy 11 = .ok (.aload_n 0, 1) := by decide +kernel
theorem dX6_copy_12 : decode cX6_copy 12 = .ok (.getfield 17, 3) := by decide +kernel
theorem dX6_copy_15 : decode cX6_copy 15 = .ok (.if_icmp .ge 21, 3) := by decide +kernel
theorem dX6_copy_18 : decode cX6_copy 18 = .ok (.aload_n 0, 1) := by decide +kernel
theorem dX6_copy_19 : decode cX6_copy 19 = .ok (.getfield 11, 3) := by decide +kernel
theorem dX6_copy_22 : decode cX6_copy 22 = .ok (.iload_n 2, 1) := by decide +kernel
theorem dX6_copy_23 : decode cX6_copy 23 = .ok (.aload_n 1, 1) := by decide +kernel
theorem dX6_copy_24 : decode cX6_copy 24 = .ok (.getfield 11, 3) := by decide +kernel
theorem dX6_copy_27 : decode cX6_copy 27 = .ok (.iload_n 2, 1) := by decide +kernel
theorem dX6_copy_28 : decode cX6_copy 28 = .ok (.aaload, 1) := by decide +kernel
theorem dX6_copy_29 : decode cX6_copy 29 = .ok (.aastore, 1) := by decide +kernel
theorem dX6_copy_30 : decode cX6_copy 30 = .ok (.iinc 2 1, 3) := by decide +kernel
theorem dX6_copy_33 : decode cX6_copy 33 = .ok (.goto (-23), 3) := by decide +kernel
theorem dX6_copy_36 : decode cX6_copy 36 = .ok (.return_, 1) := by decide +kernel
theorem dX6_insert_0 : decode cX6_insert 0 = .ok (.aload_n 0, 1) := by decide +kernel
theorem dX6_insert_1 : decode cX6_insert 1 = .ok (.getfield 17, 3) := by decide +kernel
theorem dX6_insert_4 : decode cX6_insert 4 = .ok (.aload_n 0, 1) := by decide +kernel
theorem dX6_insert_5 : decode cX6_insert 5 = .ok (.getfield 11, 3) := by decide +kernel
theorem dX6_insert_8 : decode cX6_insert 8 = .ok (.arraylength, 1) := by decide +kernel
theorem dX6_insert_9 : decode cX6_insert 9 = .ok (.if_icmp .ge 15, 3) := by decide +kernel
theorem dX6_insert_12 : decode cX6_insert 12 = .ok (.iload_n 2, 1) := by decide +kernel
theorem dX6_insert_13 : decode cX6_insert 13 = .ok (.ifCond .lt 11, 3) := by decide +kernel
theorem dX6_insert_16 : decode cX6_insert 16 = .ok (.iload_n 2, 1) := by decide +kernel
theorem dX6_insert_17 : decode cX6_insert 17 = .ok (.aload_n 0, 1) := by decide +kernel
theorem dX6_insert_18 : decode cX6_insert 18 = .ok (.getfield 17, 3) := by decide +kernel
theorem dX6_insert_21 : decode cX6_insert 21 = .ok (.if_icmp .le 4, 3) := by decide +kernel
theorem dX6_insert_24 : decode cX6_insert 24 = .ok (.return_, 1) := by decide +kernel
theorem dX6_insert_25 : decode cX6_insert 25 = .ok (.aload_n 0, 1) := by decide +kernel
theorem dX6_insert_26 : decode cX6_insert 26 = .ok (.getfield 17, 3) := by decide +kernel
theorem dX6_insert_29 : decode cX6_insert 29 = .ok (.istore_n 3, 1) := by decide +kernel
theorem dX6_insert_30 : decode cX6_insert 30 = .ok (.iload_n 3, 1) := by decide +kernel
theorem dX6_insert_31 : decode cX6_insert 31 = .ok (.iload_n 2, 1) := by decide +kernel
theorem dX6_insert_32 : decode cX6_insert 32 = .ok (.if_icmp .le 23, 3) := by decide +kernel
theorem dX6_insert_35 : decode cX6_insert 35 = .ok (.aload_n 0, 1) := by decide +kernel
theorem dX6_insert_36 : decode cX6_insert 36 = .ok (.getfield 11, 3) := by decide +kernel
theorem dX6_insert_39 : decode cX6_insert 39 = .ok (.iload_n 3, 1) := by decide +kernel
theorem dX6_insert_40 : decode cX6_insert 40 = .ok (.aload_n 0, 1) := by decide +kernel
theorem dX6_insert_41 : decode cX6_insert 41 = .ok (.getfield 11, 3) := by decide +kernel
theorem dX6_insert_44 : decode cX6_insert 44 = .ok (.iload_n 3, 1) := by decide +kernel
theorem dX6_insert_45 : decode cX6_insert 45 = .ok (.iconst 1, 1) := by decide +kernel
theorem dX6_insert_46 : decode cX6_insert 46 = .ok (.isub, 1) := by decide +kernel
theorem dX6_insert_47 : decode cX6_insert 47 = .ok (.aaload, 1) := by decide +kernel
theorem dX6_insert_48 : decode cX6_insert 48 = .ok (.aastore, 1) := by decide +kernel
theorem dX6_insert_49 : decode cX6_insert 49 = .ok (.iinc 3 (-1), 3) := by decide +kernel
theorem dX6_insert_52 : decode cX6_insert 52 = .ok (.goto (-22), 3) := by decide +kernel
theorem dX6_insert_55 : decode cX6_insert 55 = .ok (.aload_n 0, 1) := by decide +kernel
theorem dX6_insert_56 : decode cX6_insert 56 = .ok (.getfield 11, 3) := by decide +kernel
theorem dX6_insert_59 : decode cX6_insert 59 = .ok (.iload_n 2, 1) := by decide +kernel
theorem dX6_insert_60 : decode cX6_insert 60 = .ok (.aload_n 1, 1) := by decide +kernel
theorem dX6_insert_61 : decode cX6_insert 61 = .ok (.aastore, 1) := by decide +kernel
theorem dX6_insert_62 : decode cX6_insert 62 = .ok (.aload_n 0, 1) := by decide +kernel
theorem dX6_insert_63 : decode cX6_insert 63 = .ok (.dup, 1) := by decide +kernel
theorem dX6_insert_64 : decode cX6_insert 64 = .ok (.getfield 17, 3) := by decide +kernel
theorem dX6_insert_67 : decode cX6_insert 67 = .ok (.iconst 1, 1) := by decide +kernel
theorem dX6_insert_68 : decode cX6_insert 68 = .ok (.iadd, 1) := by decide +kernel
theorem dX6_insert_69 : decode cX6_insert 69 = .ok (.putfield 17, 3) := by decide +kernel
theorem dX6_insert_72 : decode cX6_insert 72 = .ok (.return_, 1) := by decide +kernel
theorem dX6_remove_0 : decode cX6_remove 0 = .ok (.iconst 0, 1) := by decide +kernel
theorem dX6_remove_1 : decode cX6_remove 1 = .ok (.istore_n 2, 1) := by decide +kernel
theorem dX6_remove_2 : decode cX6_remove 2 = .ok (.iconst 0, 1) := by decide +kernel
theorem dX6_remove_3 : decode cX6_remove 3 = .ok (.istore_n 3, 1) := by decide +kernel
theorem dX6_remove_4 : decode cX6_remove 4 = .ok (.iload_n 3, 1) := by decide +kernel
theorem dX6_remove_5 : decode cX6_remove 5 = .ok (.aload_n 0, 1) := by decide +kernel
theorem dX6_remove_6 : decode cX6_remove 6 = .ok (.getfield 17, 3) := by decide +kernel
theorem dX6_remove_9 : decode cX6_remove 9 = .ok (.if_icmp .ge 34, 3) := by decide +kernel
theorem dX6_remove_12 : decode cX6_remove 12 = .ok (.aload_n 0, 1) := by decide +kernel
theorem dX6_remove_13 : decode cX6_remove 13 = .ok (.getfield 11, 3) := by decide +kernel
theorem dX6_remove_16 : decode cX6_remove 16 = .ok (.iload_n 3, 1) := by decide +kernel
theorem dX6_remove_17 : decode cX6_remove 17 = .ok (.aaload, 1) := by decide +kernel
theorem dX6_remove_18 : decode cX6_remove 18 = .ok (.aload_n 1, 1) := by decide +kernel
theorem dX6_remove_19 : decode cX6_remove 19 = .ok (.if_acmp .eq 18, 3) := by decide +kernel
theorem dX6_remove_22 : decode cX6_remove 22 = .ok (.aload_n 0, 1) := by decide +kernel
theorem dX6_remove_23 : decode cX6_remove 23 = .ok (.getfield 11, 3) := by decide +kernel
theorem dX6_remove_26 : decode cX6_remove 26 = .ok (.iload_n 2, 1) := by decide +kernel
theorem dX6_remove_27 : decode cX6_remove 27 = .ok (.aload_n 0, 1) := by decide +kernel
theorem dX6_remove_28 : decode cX6_remove 28 = .ok (.getfield 11, 3) := by decide +kernel
theorem dX6_remove_31 : decode cX6_remove 31 = .ok (.iload_n 3, 1) := by decide +kernel
theorem dX6_remove_32 : decode cX6_remove 32 = .ok (.aaload, 1) := by decide +kernel
theorem dX6_remove_33 : decode cX6_remove 33 = .ok (.aastore, 1) := by decide +kernel
theorem dX6_remove_34 : decode cX6_remove 34 = .ok (.iinc 2 1, 3) := by decide +kernel
theorem dX6_remove_37 : decode cX6_remove 37 = .ok (.iinc 3 1, 3) := by decide +kernel
theorem dX6_remove_40 : decode cX6_remove 40 = .ok (.goto (-36), 3) := by decide +kernel
theorem dX6_remove_43 : decode cX6_remove 43 = .ok (.aload_n 0, 1) := by decide +kernel
theorem dX6_remove_44 : decode cX6_remove 44 = .ok (.iload_n 2, 1) := by decide +kernel
theorem dX6_remove_45 : decode cX6_remove 45 = .ok (.putfield 17, 3) := by decide +kernel
theorem dX6_remove_48 : decode cX6_remove 48 = .ok (.return_, 1) := by decide +kernel
theorem dX6_turn_0 : decode cX6_turn 0 = .ok (.iload_n 1, 1) := by decide +kernel
theorem dX6_turn_1 : decode cX6_turn 1 = .ok (.istore_n 3, 1) := by decide +kernel
theorem dX6_turn_2 : decode cX6_turn 2 = .ok (.iload_n 2, 1) := by decide +kernel
theorem dX6_turn_3 : decode cX6_turn 3 = .ok (.istore 4, 2) := by decide +kernel
theorem dX6_turn_5 : decode cX6_turn 5 = .ok (.iload_n 3, 1) := by decide +kernel
theorem dX6_turn_6 : decode cX6_turn 6 = .ok (.iload 4, 2) := by decide +kernel
theorem dX6_turn_8 : decode cX6_turn 8 = .ok (.if_icmp .ge 42, 3) := by decide +kernel
theorem dX6_turn_11 : decode cX6_turn 11 = .ok (.aload_n 0, 1) := by decide +kernel
theorem dX6_turn_12 : decode cX6_turn 12 = .ok (.getfield 11, 3) := by decide +kernel
theorem dX6_turn_15 : decode cX6_turn 15 = .ok (.iload_n 3, 1) := by decide +kernel
theorem dX6_turn_16 : decode cX6_turn 16 = .ok (.aaload, 1) := by decide +kernel
theorem dX6_turn_17 : decode cX6_turn 17 = .ok (.astore 5, 2) := by decide +kernel
theorem dX6_turn_19 : decode cX6_turn 19 = .ok (.aload_n 0, 1) := by decide +kernel
theorem dX6_turn_20 : decode cX6_turn 20 = .ok (.getfield 11, 3) := by decide +kernel
theorem dX6_turn_23 : decode cX6_turn 23 = .ok (.iload_n 3, 1) := by decide +kernel
theorem dX6_turn_24 : decode cX6_turn 24 = .ok (.aload_n 0, 1) := by decide +kernel
theorem dX6_turn_25 : decode cX6_turn 25 = .ok (.getfield 11, 3) := by decide +kernel
theorem dX6_turn_28 : decode cX6_turn 28 = .ok (.iload 4, 2) := by decide +kernel
theorem dX6_turn_30 : decode cX6_turn 30 = .ok (.aaload, 1) := by decide +kernel
theorem dX6_turn_31 : decode cX6_turn 31 = .ok (.aastore, 1) := by decide +kernel
theorem dX6_turn_32 : decode cX6_turn 32 = .ok (.aload_n 0, 1) := by decide +kernel
theorem dX6_turn_33 : decode cX6_turn 33 = .ok (.getfield 11, 3) := by decide +kernel
theorem dX6_turn_36 : decode cX6_turn 36 = .ok (.iload 4, 2) := by decide +kernel
theorem dX6_turn_38 : decode cX6_turn 38 = .ok (.aload 5, 2) := by decide +kernel
theorem dX6_turn_40 : decode cX6_turn 40 = .ok (.aastore, 1) := by decide +kernel
theorem dX6_turn_41 : decode cX6_turn 41 = .ok (.iinc 3 1, 3) := by decide +kernel
theorem dX6_turn_44 : decode cX6_turn 44 = .ok (.iinc 4 (-1), 3) := by decide +kernel
theorem dX6_turn_47 : decode cX6_turn 47 = .ok (.goto (-42), 3) := by decide +kernel
theorem dX6_turn_50 : decode cX6_turn 50 = .ok (.return_, 1) := by decide +kernel
theorem dX6_fits_0 : decode cX6_fits 0 = .ok (.aload_n 0, 1) := by decide +kernel
theorem dX6_fits_1 : decode cX6_fits 1 = .ok (.getfield 17, 3) := by decide +kernel
theorem dX6_fits_4 : decode cX6_fits 4 = .ok (.bipush 12, 2) := by decide +kernel
theorem dX6_fits_6 : decode cX6_fits 6 = .ok (.if_icmp .gt 15, 3) := by decide +kernel
theorem dX6_fits_9 : decode cX6_fits 9 = .ok (.aload_n 0, 1) := by decide +kernel
theorem dX6_fits_10 : decode cX6_fits 10 = .ok (.invokevirtual 21, 3) := by decide +kernel
theorem dX6_fits_13 : decode cX6_fits 13 = .ok (.iload_n 1, 1) := by decide +kernel
theorem dX6_fits_14 : decode cX6_fits 14 = .ok (.if_icmp .gt 7, 3) := by decide +kernel
theorem dX6_fits_17 : decode cX6_fits 17 = .ok (.iconst 1, 1) := by decide +kernel
theorem dX6_fits_18 : decode cX6_fits 18 = .ok (.goto 4, 3) := by decide +kernel
theorem dX6_fits_21 : decode cX6_fits 21 = .ok (.iconst 0, 1) := by decide +kernel
theorem dX6_fits_22 : decode cX6_fits 22 = .ok (.ireturn, 1) := by decide +kernel
theorem dX6_loadAtDepot_0 : decode cX6_loadAtDepot 0 = .ok (.iconst 0, 1) := by decide +kernel
theorem dX6_loadAtDepot_1 : decode cX6_loadAtDepot 1 = .ok (.istore_n 1, 1) := by decide +kernel
theorem dX6_loadAtDepot_2 : decode cX6_loadAtDepot 2 = .ok (.iconst 0, 1) := by decide +kernel
theorem dX6_loadAtDepot_3 : decode cX6_loadAtDepot 3 = .ok (.istore_n 2, 1) := by decide +kernel
theorem dX6_loadAtDepot_4 : decode cX6_loadAtDepot 4 = .ok (.iload_n 2, 1) := by decide +kernel
theorem dX6_loadAtDepot_5 : decode cX6_loadAtDepot 5 = .ok (.aload_n 0, 1) := by decide +kernel
theorem dX6_loadAtDepot_6 : decode cX6_loadAtDepot 6 = .ok (.getfield 17, 3) := by decide +kernel
theorem dX6_loadAtDepot_9 : decode cX6_loadAtDepot 9 = .ok (.if_icmp .ge 34, 3) := by decide +kernel
theorem dX6_loadAtDepot_12 : decode cX6_loadAtDepot 12 = .ok (.aload_n 0, 1) := by decide +kernel
theorem dX6_loadAtDepot_13 : decode cX6_loadAtDepot 13 = .ok (.getfield 11, 3) := by decide +kernel
theorem dX6_loadAtDepot_16 : decode cX6_loadAtDepot 16 = .ok (.iload_n 2, 1) := by decide +kernel
theorem dX6_loadAtDepot_17 : decode cX6_loadAtDepot 17 = .ok (.aaload, 1) := by decide +kernel
theorem dX6_loadAtDepot_18 : decode cX6_loadAtDepot 18 = .ok (.getfield 25, 3) := by decide +kernel
theorem dX6_loadAtDepot_21 : decode cX6_loadAtDepot 21 = .ok (.iconst 2, 1) := by decide +kernel
theorem dX6_loadAtDepot_22 : decode cX6_loadAtDepot 22 = .ok (.if_icmp .eq 15, 3) := by decide +kernel
theorem dX6_loadAtDepot_25 : decode cX6_loadAtDepot 25 = .ok (.iload_n 1, 1) := by decide +kernel
theorem dX6_loadAtDepot_26 : decode cX6_loadAtDepot 26 = .ok (.aload_n 0, 1) := by decide +kernel
theorem dX6_loadAtDepot_27 : decode cX6_loadAtDepot 27 = .ok (.getfield 11, 3) := by decide +kernel
theorem dX6_loadAtDepot_30 : decode cX6_loadAtDepot 30 = .ok (.iload_n 2, 1) := by decide +kernel
theorem dX6_loadAtDepot_31 : decode cX6_loadAtDepot 31 = .ok (.aaload, 1) := by decide +kernel
theorem dX6_loadAtDepot_32 : decode cX6_loadAtDepot 32 = .ok (.getfield 28, 3) := by decide +kernel
theorem dX6_loadAtDepot_35 : decode cX6_loadAtDepot 35 = .ok (.iadd, 1) := by decide +kernel
theorem dX6_loadAtDepot_36 : decode cX6_loadAtDepot 36 = .ok (.istore_n 1, 1) := by decide +kernel
theorem dX6_loadAtDepot_37 : decode cX6_loadAtDepot 37 = .ok (.iinc 2 1, 3) := by decide +kernel
theorem dX6_loadAtDepot_40 : decode cX6_loadAtDepot 40 = .ok (.goto (-36), 3) := by decide +kernel
theorem dX6_loadAtDepot_43 : decode cX6_loadAtDepot 43 = .ok (.iload_n 1, 1) := by decide +kernel
theorem dX6_loadAtDepot_44 : decode cX6_loadAtDepot 44 = .ok (.ireturn, 1) := by decide +kernel
theorem dX6_greatestLoad_0 : decode cX6_greatestLoad 0 = .ok (.aload_n 0, 1) := by decide +kernel
theorem dX6_greatestLoad_1 : decode cX6_greatestLoad 1 = .ok (.invokevirtual 31, 3) := by decide +kernel
theorem dX6_greatestLoad_4 : decode cX6_greatestLoad 4 = .ok (.istore_n 1, 1) := by decide +kernel
theorem dX6_greatestLoad_5 : decode cX6_greatestLoad 5 = .ok (.iload_n 1, 1) := by decide +kernel
theorem dX6_greatestLoad_6 : decode cX6_greatestLoad 6 = .ok (.istore_n 2, 1) := by decide +kernel
theorem dX6_greatestLoad_7 : decode cX6_greatestLoad 7 = .ok (.iconst 0, 1) := by decide +kernel
theorem dX6_greatestLoad_8 : decode cX6_greatestLoad 8 = .ok (.istore_n 3, 1) := by decide +kernel
theorem dX6_greatestLoad_9 : decode cX6_greatestLoad 9 = .ok (.iload_n 3, 1) := by decide +kernel
theorem dX6_greatestLoad_10 : decode cX6_greatestLoad 10 = .ok (.aload_n 0, 1) := by decide +kernel
theorem dX6_greatestLoad_11 : decode cX6_greatestLoad 11 = .ok (.getfield 17, 3) := by decide +kernel
theorem dX6_greatestLoad_14 : decode cX6_greatestLoad 14 = .ok (.if_icmp .ge 54, 3) := by decide +kernel
theorem dX6_greatestLoad_17 : decode cX6_greatestLoad 17 = .ok (.iload_n 1, 1) := by decide +kernel
theorem dX6_greatestLoad_18 : decode cX6_greatestLoad 18 = .ok (.aload_n 0, 1) := by decide +kernel
theorem dX6_greatestLoad_19 : decode cX6_greatestLoad 19 = .ok (.getfield 11, 3) := by decide +kernel
theorem dX6_greatestLoad_22 : decode cX6_greatestLoad 22 = .ok (.iload_n 3, 1) := by decide +kernel
theorem dX6_greatestLoad_23 : decode cX6_greatestLoad 23 = .ok (.aaload, 1) := by decide +kernel
theorem dX6_greatestLoad_24 : decode cX6_greatestLoad 24 = .ok (.getfield 25, 3) := by decide +kernel
theorem dX6_greatestLoad_27 : decode cX6_greatestLoad 27 = .ok (.iconst 2, 1) := by decide +kernel
theorem dX6_greatestLoad_28 : decode cX6_greatestLoad 28 = .ok (.if_icmp .ne 15, 3) := by decide +kernel
theorem dX6_greatestLoad_31 : decode cX6_greatestLoad 31 = .ok (.aload_n 0, 1) := by decide +kernel
theorem dX6_greatestLoad_32 : decode cX6_greatestLoad 32 = .ok (.getfield 11, 3) := by decide +kernel
theorem dX6_greatestLoad_35 : decode cX6_greatestLoad 35 = .ok (.iload_n 3, 1) := by decide +kernel
theorem dX6_greatestLoad_36 : decode cX6_greatestLoad 36 = .ok (.aaload, 1) := by decide +kernel
theorem dX6_greatestLoad_37 : decode cX6_greatestLoad 37 = .ok (.getfield 28, 3) := by decide +kernel
theorem dX6_greatestLoad_40 : decode cX6_greatestLoad 40 = .ok (.goto 13, 3) := by decide +kernel
theorem dX6_greatestLoad_43 : decode cX6_greatestLoad 43 = .ok (.aload_n 0, 1) := by decide +kernel
theorem dX6_greatestLoad_44 : decode cX6_greatestLoad 44 = .ok (.getfield 11, 3) := by decide +kernel
theorem dX6_greatestLoad_47 : decode cX6_greatestLoad 47 = .ok (.iload_n 3, 1) := by decide +kernel
theorem dX6_greatestLoad_48 : decode cX6_greatestLoad 48 = .ok (.aaload, 1) := by decide +kernel
theorem dX6_greatestLoad_49 : decode cX6_greatestLoad 49 = .ok (.getfield 28, 3) := by decide +kernel
theorem dX6_greatestLoad_52 : decode cX6_greatestLoad 52 = .ok (.ineg, 1) := by decide +kernel
theorem dX6_greatestLoad_53 : decode cX6_greatestLoad 53 = .ok (.iadd, 1) := by decide +kernel
theorem dX6_greatestLoad_54 : decode cX6_greatestLoad 54 = .ok (.istore_n 1, 1) := by decide +kernel
theorem dX6_greatestLoad_55 : decode cX6_greatestLoad 55 = .ok (.iload_n 1, 1) := by decide +kernel
theorem dX6_greatestLoad_56 : decode cX6_greatestLoad 56 = .ok (.iload_n 2, 1) := by decide +kernel
theorem dX6_greatestLoad_57 : decode cX6_greatestLoad 57 = .ok (.if_icmp .le 5, 3) := by decide +kernel
theorem dX6_greatestLoad_60 : decode cX6_greatestLoad 60 = .ok (.iload_n 1, 1) := by decide +kernel
theorem dX6_greatestLoad_61 : decode cX6_greatestLoad 61 = .ok (.istore_n 2, 1) := by decide +kernel
theorem dX6_greatestLoad_62 : decode cX6_greatestLoad 62 = .ok (.iinc 3 1, 3) := by decide +kernel
theorem dX6_greatestLoad_65 : decode cX6_greatestLoad 65 = .ok (.goto (-56), 3) := by decide +kernel
theorem dX6_greatestLoad_68 : decode cX6_greatestLoad 68 = .ok (.iload_n 2, 1) := by decide +kernel
theorem dX6_greatestLoad_69 : decode cX6_greatestLoad 69 = .ok (.ireturn, 1) := by decide +kernel
theorem dX8_init_0 : decode cX8_init 0 = .ok (.aload_n 0, 1) := by decide +kernel
theorem dX8_init_1 : decode cX8_init 1 = .ok (.invokespecial 3, 3) := by decide +kernel
theorem dX8_init_4 : decode cX8_init 4 = .ok (.aload_n 0, 1) := by decide +kernel
theorem dX8_init_5 : decode cX8_init 5 = .ok (.bipush 24, 2) := by decide +kernel
theorem dX8_init_7 : decode cX8_init 7 = .ok (.newarray .int, 2) := by decide +kernel
theorem dX8_init_9 : decode cX8_init 9 = .ok (.putfield 9, 3) := by decide +kernel
theorem dX8_init_12 : decode cX8_init 12 = .ok (.aload_n 0, 1) := by decide +kernel
theorem dX8_init_13 : decode cX8_init 13 = .ok (.new 15, 3) := by decide +kernel
theorem dX8_init_16 : decode cX8_init 16 = .ok (.dup, 1) := by decide +kernel
theorem dX8_init_17 : decode cX8_init 17 = .ok (.bipush 30, 2) := by decide +kernel
theorem dX8_init_19 : decode cX8_init 19 = .ok (.bipush 30, 2) := by decide +kernel
theorem dX8_init_21 : decode cX8_init 21 = .ok (.invokespecial 17, 3) := by decide +kernel
theorem dX8_init_24 : decode cX8_init 24 = .ok (.putfield 20, 3) := by decide +kernel
theorem dX8_init_27 : decode cX8_init 27 = .ok (.iconst 0, 1) := by decide +kernel
theorem dX8_init_28 : decode cX8_init 28 = .ok (.istore_n 1, 1) := by decide +kernel
theorem dX8_init_29 : decode cX8_init 29 = .ok (.iload_n 1, 1) := by decide +kernel
theorem dX8_init_30 : decode cX8_init 30 = .ok (.bipush 24, 2) := by decide +kernel
theorem dX8_init_32 : decode cX8_init 32 = .ok (.if_icmp .ge 17, 3) := by decide +kernel
theorem dX8_init_35 : decode cX8_init 35 = .ok (.aload_n 0, 1) := by decide +kernel
theorem dX8_init_36 : decode cX8_init 36 = .ok (.getfield 9, 3) := by decide +kernel
theorem dX8_init_39 : decode cX8_init 39 = .ok (.iload_n 1, 1) := by decide +kernel
theorem dX8_init_40 : decode cX8_init 40 = .ok (.bipush 10, 2) := by decide +kernel
theorem dX8_init_42 : decode cX8_init 42 = .ok (.iastore, 1) := by decide +kernel
theorem dX8_init_43 : decode cX8_init 43 = .ok (.iinc 1 1, 3) := by decide +kernel
theorem dX8_init_46 : decode cX8_init 46 = .ok (.goto (-17), 3) := by decide +kernel
theorem dX8_init_49 : decode cX8_init 49 = .ok (.return_, 1) := by decide +kernel
theorem dX8_minutesOf_0 : decode cX8_minutesOf 0 = .ok (.aload_n 1, 1) := by decide +kernel
theorem dX8_minutesOf_1 : decode cX8_minutesOf 1 = .ok (.aload_n 2, 1) := by decide +kernel
theorem dX8_minutesOf_2 : decode cX8_minutesOf 2 = .ok (.invokevirtual 24, 3) := by decide +kernel
theorem dX8_minutesOf_5 : decode cX8_minutesOf 5 = .ok (.aload_n 0, 1) := by decide +kernel
theorem dX8_minutesOf_6 : decode cX8_minutesOf 6 = .ok (.getfield 9, 3) := by decide +kernel
theorem dX8_minutesOf_9 : decode cX8_minutesOf 9 = .ok (.iload_n 3, 1) := by decide +kernel
theorem dX8_minutesOf_10 : decode cX8_minutesOf 10 = .ok (.invokestatic 28, 3) := by decide +kernel
theorem dX8_minutesOf_13 : decode cX8_minutesOf 13 = .ok (.iaload, 1) := by decide +kernel
theorem dX8_minutesOf_14 : decode cX8_minutesOf 14 = .ok (.imul, 1) := by decide +kernel
theorem dX8_minutesOf_15 : decode cX8_minutesOf 15 = .ok (.bipush 9, 2) := by decide +kernel
theorem dX8_minutesOf_17 : decode cX8_minutesOf 17 = .ok (.iadd, 1) := by decide +kernel
theorem dX8_minutesOf_18 : decode cX8_minutesOf 18 = .ok (.bipush 10, 2) := by decide +kernel
theorem dX8_minutesOf_20 : decode cX8_minutesOf 20 = .ok (.idiv, 1) := by decide +kernel
theorem dX8_minutesOf_21 : decode cX8_minutesOf 21 = .ok (.ireturn, 1) := by decide +kernel
theorem dX8_hourOf_0 : decode cX8_hourOf 0 = .ok (.iload_n 0, 1) := by decide +kernel
theorem dX8_hourOf_1 : decode cX8_hourOf 1 = .ok (.bipush 60, 2) := by decide +kernel
theorem dX8_hourOf_3 : decode cX8_hourOf 3 = .ok (.idiv, 1) := by decide +kernel
theorem dX8_hourOf_4 : decode cX8_hourOf 4 = .ok (.bipush 24, 2) := by decide +kernel
theorem dX8_hourOf_6 : decode cX8_hourOf 6 = .ok (.irem, 1) := by decide +kernel
theorem dX8_hourOf_7 : decode cX8_hourOf 7 = .ok (.ireturn, 1) := by decide +kernel
theorem dX9_init_0 : decode cX9_init 0 = .ok (.aload_n 0, 1) := by decide +kernel
theorem dX9_init_1 : decode cX9_init 1 = .ok (.invokespecial 3, 3) := by decide +kernel
theorem dX9_init_4 : decode cX9_init 4 = .ok (.aload_n 0, 1) := by decide +kernel
theorem dX9_init_5 : decode cX9_init 5 = .ok (.iconst 0, 1) := by decide +kernel
theorem dX9_init_6 : decode cX9_init 6 = .ok (.putfield 9, 3) := by decide +kernel
theorem dX9_init_9 : decode cX9_init 9 = .ok (.aload_n 0, 1) := by decide +kernel
theorem dX9_init_10 : decode cX9_init 10 = .ok (.iconst 0, 1) := by decide +kernel
theorem dX9_init_11 : decode cX9_init 11 = .ok (.putfield 15, 3) := by decide +kernel
theorem dX9_init_14 : decode cX9_init 14 = .ok (.aload_n 0, 1) := by decide +kernel
theorem dX9_init_15 : decode cX9_init 15 = .ok (.iconst 0, 1) := by decide +kernel
theorem dX9_init_16 : decode cX9_init 16 = .ok (.putfield 18, 3) := by decide +kernel
theorem dX9_init_19 : decode cX9_init 19 = .ok (.aload_n 0, 1) := by decide +kernel
theorem dX9_init_20 : decode cX9_init 20 = .ok (.iconst 0, 1) := by decide +kernel
theorem dX9_init_21 : decode cX9_init 21 = .ok (.putfield 21, 3) := by decide +kernel
theorem dX9_init_24 : decode cX9_init 24 = .ok (.aload_n 0, 1) := by decide +kernel
theorem dX9_init_25 : decode cX9_init 25 = .ok (.aload_n 1, 1) := by decide +kernel
theorem dX9_init_26 : decode cX9_init 26 = .ok (.putfield 24, 3) := by decide +kernel
theorem dX9_init_29 : decode cX9_init 29 = .ok (.aload_n 0, 1) := by decide +kernel
theorem dX9_init_30 : decode cX9_init 30 = .ok (.aload_n 1, 1) := by decide +kernel
theorem dX9_init_31 : decode cX9_init 31 = .ok (.getfield 28, 3) := by decide +kernel
theorem dX9_init_34 : decode cX9_init 34 = .ok (.putfield 34, 3) := by decide +kernel
theorem dX9_init_37 : decode cX9_init 37 = .ok (.return_, 1) := by decide +kernel
theorem dX9_begin_0 : decode cX9_begin 0 = .ok (.aload_n 0, 1) := by decide +kernel
theorem dX9_begin_1 : decode cX9_begin 1 = .ok (.aload_n 0, 1) := by decide +kernel
theorem dX9_begin_2 : decode cX9_begin 2 = .ok (.getfield 24, 3) := by decide +kernel
theorem dX9_begin_5 : decode cX9_begin 5 = .ok (.getfield 28, 3) := by decide +kernel
theorem dX9_begin_8 : decode cX9_begin 8 = .ok (.putfield 34, 3) := by decide +kernel
theorem dX9_begin_11 : decode cX9_begin 11 = .ok (.aload_n 0, 1) := by decide +kernel
theorem dX9_begin_12 : decode cX9_begin 12 = .ok (.iload_n 1, 1) := by decide +kernel
theorem dX9_begin_13 : decode cX9_begin 13 = .ok (.putfield 9, 3) := by decide +kernel
theorem dX9_begin_16 : decode cX9_begin 16 = .ok (.aload_n 0, 1) := by decide +kernel
theorem dX9_begin_17 : decode cX9_begin 17 = .ok (.iload_n 1, 1) := by decide +kernel
theorem dX9_begin_18 : decode cX9_begin 18 = .ok (.putfield 15, 3) := by decide +kernel
theorem dX9_begin_21 : decode cX9_begin 21 = .ok (.aload_n 0, 1) := by decide +kernel
theorem dX9_begin_22 : decode cX9_begin 22 = .ok (.iconst 0, 1) := by decide +kernel
theorem dX9_begin_23 : decode cX9_begin 23 = .ok (.putfield 18, 3) := by decide +kernel
theorem dX9_begin_26 : decode cX9_begin 26 = .ok (.aload_n 0, 1) := by decide +kernel
theorem dX9_begin_27 : decode cX9_begin 27 = .ok (.iconst 0, 1) := by decide +kernel
theorem dX9_begin_28 : decode cX9_begin 28 = .ok (.putfield 21, 3) := by decide +kernel
theorem dX9_begin_31 : decode cX9_begin 31 = .ok (.return_, 1) := by decide +kernel
theorem dX9_goWithBreak_0 : decode cX9_goWithBreak 0 = .ok (.aload_n 0, 1) := by decide +kernel
theorem dX9_goWithBreak_1 : decode cX9_goWithBreak 1 = .ok (.getfield 24, 3) := by decide +kernel
theorem dX9_goWithBreak_4 : decode cX9_goWithBreak 4 = .ok (.aload_n 0, 1) := by decide +kernel
theorem dX9_goWithBreak_5 : decode cX9_goWithBreak 5 = .ok (.getfield 34, 3) := by decide +kernel
theorem dX9_goWithBreak_8 : decode cX9_goWithBreak 8 = .ok (.aload_n 1, 1) := by decide +kernel
theorem dX9_goWithBreak_9 : decode cX9_goWithBreak 9 = .ok (.aload_n 0, 1) := by decide +kernel
theorem dX9_goWithBreak_10 : decode cX9_goWithBreak 10 = .ok (.getfield 15, 3) := by decide +kernel
theorem dX9_goWithBreak_13 : decode cX9_goWithBreak 13 = .ok (.invokevirtual 37, 3) := by decide +kernel
theorem dX9_goWithBreak_16 : decode cX9_goWithBreak 16 = .ok (.istore_n 2, 1) := by decide +kernel
theorem dX9_goWithBreak_17 : decode cX9_goWithBreak 17 = .ok (.aload_n 0, 1) := by decide +kernel
theorem dX9_goWithBreak_18 : decode cX9_goWithBreak 18 = .ok (.getfield 15, 3) := by decide +kernel
theorem dX9_goWithBreak_21 : decode cX9_goWithBreak 21 = .ok (.aload_n 0, 1) := by decide +kernel
theorem dX9_goWithBreak_22 : decode cX9_goWithBreak 22 = .ok (.getfield 9, 3) := by decide +kernel
theorem dX9_goWithBreak_25 : decode cX9_goWithBreak 25 = .ok (.isub, 1) := by decide +kernel
theorem dX9_goWithBreak_26 : decode cX9_goWithBreak 26 = .ok (.iload_n 2, 1) := by decide +kernel
theorem dX9_goWithBreak_27 : decode cX9_goWithBreak 27 = .ok (.iadd, 1) := by decide +kernel
theorem dX9_goWithBreak_28 : decode cX9_goWithBreak 28 = .ok (.sipush 240, 3) := by decide +kernel
theorem dX9_goWithBreak_31 : decode cX9_goWithBreak 31 = .ok (.if_icmp .le 49, 3) := by decide +kernel
theorem dX9_goWithBreak_34 : decode cX9_goWithBreak 34 = .ok (.aload_n 0, 1) := by decide +kernel
theorem dX9_goWithBreak_35 : decode cX9_goWithBreak 35 = .ok (.dup, 1) := by decide +kernel
theorem dX9_goWithBreak_36 : decode cX9_goWithBreak 36 = .ok (.getfield 15, 3) := by decide +kernel
theorem dX9_goWithBreak_39 : decode cX9_goWithBreak 39 = .ok (.bipush 30, 2) := by decide +kernel
theorem dX9_goWithBreak_41 : decode cX9_goWithBreak 41 = .ok (.iadd, 1) := by decide +kernel
theorem dX9_goWithBreak_42 : decode cX9_goWithBreak 42 = .ok (.putfield 15, 3) := by decide +kernel
theorem dX9_goWithBreak_45 : decode cX9_goWithBreak 45 = .ok (.aload_n 0, 1) := by decide +kernel
theorem dX9_goWithBreak_46 : decode cX9_goWithBreak 46 = .ok (.aload_n 0, 1) := by decide +kernel
theorem dX9_goWithBreak_47 : decode cX9_goWithBreak 47 = .ok (.getfield 15, 3) := by decide +kernel
theorem dX9_goWithBreak_50 : decode cX9_goWithBreak 50 = .ok (.putfield 9, 3) := by decide +kernel
theorem dX9_goWithBreak_53 : decode cX9_goWithBreak 53 = .ok (.aload_n 0, 1) := by decide +kernel
theorem dX9_goWithBreak_54 : decode cX9_goWithBreak 54 = .ok (.dup, 1) := by decide +kernel
theorem dX9_goWithBreak_55 : decode cX9_goWithBreak 55 = .ok (.getfield 21, 3) := by decide +kernel
theorem dX9_goWithBreak_58 : decode cX9_goWithBreak 58 = .ok (.iconst 1, 1) := by decide +kernel
theorem dX9_goWithBreak_59 : decode cX9_goWithBreak 59 = .ok (.iadd, 1) := by decide +kernel
theorem dX9_goWithBreak_60 : decode cX9_goWithBreak 60 = .ok (.putfield 21, 3) := by decide +kernel
theorem dX9_goWithBreak_63 : decode cX9_goWithBreak 63 = .ok (.aload_n 0, 1) := by decide +kernel
theorem dX9_goWithBreak_64 : decode cX9_goWithBreak 64 = .ok (.getfield 24, 3) := by decide +kernel
theorem dX9_goWithBreak_67 : decode cX9_goWithBreak 67 = .ok (.aload_n 0, 1) := by decide +kernel
theorem dX9_goWithBreak_68 : decode cX9_goWithBreak 68 = .ok (.getfield 34, 3) := by decide +kernel
theorem dX9_goWithBreak_71 : decode cX9_goWithBreak 71 = .ok (.aload_n 1, 1) := by decide +kernel
theorem dX9_goWithBreak_72 : decode cX9_goWithBreak 72 = .ok (.aload_n 0, 1) := by decide +kernel
theorem dX9_goWithBreak_73 : decode cX9_goWithBreak 73 = .ok (.getfield 15, 3) := by decide +kernel
theorem dX9_goWithBreak_76 : decode cX9_goWithBreak 76 = .ok (.invokevirtual 37, 3) := by decide +kernel
theorem dX9_goWithBreak_79 : decode cX9_goWithBreak 79 = .ok (.istore_n 2, 1) := by decide +kernel
theorem dX9_goWithBreak_80 : decode cX9_goWithBreak 80 = .ok (.aload_n 0, 1) := by decide +kernel
theorem dX9_goWithBreak_81 : decode cX9_goWithBreak 81 = .ok (.aload_n 1, 1) := by decide +kernel
theorem dX9_goWithBreak_82 : decode cX9_goWithBreak 82 = .ok (.iload_n 2, 1) := by decide +kernel
theorem dX9_goWithBreak_83 : decode cX9_goWithBreak 83 = .ok (.invokevirtual 41, 3) := by decide +kernel
theorem dX9_goWithBreak_86 : decode cX9_goWithBreak 86 = .ok (.return_, 1) := by decide +kernel
theorem dX9_goStraight_0 : decode cX9_goStraight 0 = .ok (.aload_n 0, 1) := by decide +kernel
theorem dX9_goStraight_1 : decode cX9_goStraight 1 = .ok (.aload_n 1, 1) := by decide +kernel
theorem dX9_goStraight_2 : decode cX9_goStraight 2 = .ok (.aload_n 0, 1) := by decide +kernel
theorem dX9_goStraight_3 : decode cX9_goStraight 3 = .ok (.getfield 24, 3) := by decide +kernel
theorem dX9_goStraight_6 : decode cX9_goStraight 6 = .ok (.aload_n 0, 1) := by decide +kernel
theorem dX9_goStraight_7 : decode cX9_goStraight 7 = .ok (.getfield 34, 3) := by decide +kernel
theorem dX9_goStraight_10 : decode cX9_goStraight 10 = .ok (.aload_n 1, 1) := by decide +kernel
theorem dX9_goStraight_11 : decode cX9_goStraight 11 = .ok (.aload_n 0, 1) := by decide +kernel
theorem dX9_goStraight_12 : decode cX9_goStraight 12 = .ok (.getfield 15, 3) := by decide +kernel
theorem dX9_goStraight_15 : decode cX9_goStraight 15 = .ok (.invokevirtual 37, 3) := by decide +kernel
theorem dX9_goStraight_18 : decode cX9_goStraight 18 = .ok (.invokevirtual 41, 3) := by decide +kernel
theorem dX9_goStraight_21 : decode cX9_goStraight 21 = .ok (.return_, 1) := by decide +kernel
theorem dX9_arrive_0 : decode cX9_arrive 0 = .ok (.aload_n 0, 1) := by decide +kernel
theorem dX9_arrive_1 : decode cX9_arrive 1 = .ok (.dup, 1) := by decide +kernel
theorem dX9_arrive_2 : decode cX9_arrive 2 = .ok (.getfield 18, 3) := by decide +kernel
theorem dX9_arrive_5 : decode cX9_arrive 5 = .ok (.iload_n 2, 1) := by decide +kernel
theorem dX9_arrive_6 : decode cX9_arrive 6 = .ok (.iadd, 1) := by decide +kernel
theorem dX9_arrive_7 : decode cX9_arrive 7 = .ok (.putfield 18, 3) := by decide +kernel
theorem dX9_arrive_10 : decode cX9_arrive 10 = .ok (.aload_n 0, 1) := by decide +kernel
theorem dX9_arrive_11 : decode cX9_arrive 11 = .ok (.dup, 1) := by decide +kernel
theorem dX9_arrive_12 : decode cX9_arrive 12 = .ok (.getfield 15, 3) := by decide +kernel
theorem dX9_arrive_15 : decode cX9_arrive 15 = .ok (.iload_n 2, 1) := by decide +kernel
theorem dX9_arrive_16 : decode cX9_arrive 16 = .ok (.iadd, 1) := by decide +kernel
theorem dX9_arrive_17 : decode cX9_arrive 17 = .ok (.putfield 15, 3) := by decide +kernel
theorem dX9_arrive_20 : decode cX9_arrive 20 = .ok (.aload_n 0, 1) := by decide +kernel
theorem dX9_arrive_21 : decode cX9_arrive 21 = .ok (.aload_n 1, 1) := by decide +kernel
theorem dX9_arrive_22 : decode cX9_arrive 22 = .ok (.putfield 34, 3) := by decide +kernel
theorem dX9_arrive_25 : decode cX9_arrive 25 = .ok (.return_, 1) := by decide +kernel
theorem dX9_waitTill_0 : decode cX9_waitTill 0 = .ok (.aload_n 0, 1) := by decide +kernel
theorem dX9_waitTill_1 : decode cX9_waitTill 1 = .ok (.getfield 15, 3) := by decide +kernel
theorem dX9_waitTill_4 : decode cX9_waitTill 4 = .ok (.iload_n 1, 1) := by decide +kernel
theorem dX9_waitTill_5 : decode cX9_waitTill 5 = .ok (.if_icmp .ge 8, 3) := by decide +kernel
theorem dX9_waitTill_8 : decode cX9_waitTill 8 = .ok (.aload_n 0, 1) := by decide +kernel
theorem dX9_waitTill_9 : decode cX9_waitTill 9 = .ok (.iload_n 1, 1) := by decide +kernel
theorem dX9_waitTill_10 : decode cX9_waitTill 10 = .ok (.putfield 15, 3) := by decide +kernel
theorem dX9_waitTill_13 : decode cX9_waitTill 13 = .ok (.return_, 1) := by decide +kernel
theorem dX9_stay_0 : decode cX9_stay 0 = .ok (.aload_n 0, 1) := by decide +kernel
theorem dX9_stay_1 : decode cX9_stay 1 = .ok (.dup, 1) := by decide +kernel
theorem dX9_stay_2 : decode cX9_stay 2 = .ok (.getfield 15, 3) := by decide +kernel
theorem dX9_stay_5 : decode cX9_stay 5 = .ok (.iload_n 1, 1) := by decide +kernel
theorem dX9_stay_6 : decode cX9_stay 6 = .ok (.iadd, 1) := by decide +kernel
theorem dX9_stay_7 : decode cX9_stay 7 = .ok (.putfield 15, 3) := by decide +kernel
theorem dX9_stay_10 : decode cX9_stay 10 = .ok (.return_, 1) := by decide +kernel
theorem dX10_init_0 : decode cX10_init 0 = .ok (.aload_n 0, 1) := by decide +kernel
theorem dX10_init_1 : decode cX10_init 1 = .ok (.invokespecial 1, 3) := by decide +kernel
theorem dX10_init_4 : decode cX10_init 4 = .ok (.aload_n 0, 1) := by decide +kernel
theorem dX10_init_5 : decode cX10_init 5 = .ok (.new 7, 3) := by decide +kernel
theorem dX10_init_8 : decode cX10_init 8 = .ok (.dup, 1) := by decide +kernel
theorem dX10_init_9 : decode cX10_init 9 = .ok (.invokespecial 9, 3) := by decide +kernel
theorem dX10_init_12 : decode cX10_init 12 = .ok (.putfield 10, 3) := by decide +kernel
theorem dX10_init_15 : decode cX10_init 15 = .ok (.aload_n 0, 1) := by decide +kernel
theorem dX10_init_16 : decode cX10_init 16 = .ok (.iload_n 1, 1) := by decide +kernel
theorem dX10_init_17 : decode cX10_init 17 = .ok (.putfield 16, 3) := by decide +kernel
theorem dX10_init_20 : decode cX10_init 20 = .ok (.aload_n 0, 1) := by decide +kernel
theorem dX10_init_21 : decode cX10_init 21 = .ok (.iload_n 2, 1) := by decide +kernel
theorem dX10_init_22 : decode cX10_init 22 = .ok (.putfield 20, 3) := by decide +kernel
theorem dX10_init_25 : decode cX10_init 25 = .ok (.aload_n 0, 1) := by decide +kernel
theorem dX10_init_26 : decode cX10_init 26 = .ok (.iload_n 3, 1) := by decide +kernel
theorem dX10_init_27 : decode cX10_init 27 = .ok (.putfield 23, 3) := by decide +kernel
theorem dX10_init_30 : decode cX10_init 30 = .ok (.aload_n 0, 1) := by decide +kernel
theorem dX10_init_31 : decode cX10_init 31 = .ok (.iload 4, 2) := by decide +kernel
theorem dX10_init_33 : decode cX10_init 33 = .ok (.putfield 26, 3) := by decide +kernel
theorem dX10_init_36 : decode cX10_init 36 = .ok (.return_, 1) := by decide +kernel
section BL
variable {p : Program} {l : Launch} {e : Env} {s : State} {m : MethodId} {args : Array Value} {below : List Frame} {meth : Method} {c : Code} {w : Wd} {S : St}
theorem bX0_init_0 (B : Bd p s m args meth c cX0_init 1 (wsOf yX0_init cX0_init 1 none) RX0 w none "<init>") {v0 : Nat} {post : St → Prop} (h1 : kd S v0 = 2) (hq : post (sP (sI (sI S 64 v0 0) 65 v0 (-1)) 66 v0 none)) : K p l e rX0_init s m args below meth c 1 w 0 0 (MQ below (va_Qv post (fun S' t => Hd w S' t.heap) (wA w)) args s 0 0 (wA w)) S 0 [(0, .ref v0)] [] := by
  refine k_aload_n B 0 rfl rfl dX0_init_0 ?_
  refine k_objInit B (in_of qlRX0_1) (in_of qi_obj) (in_of qc_obj) (Nat.le_of_ble_eq_true rfl) (Nat.le_of_ble_eq_true rfl) dX0_init_1 ?_
  refine k_aload_n B 0 rfl rfl dX0_init_4 ?_
  refine k_iconst (v := 0) B (by decide) dX0_init_5 ?_
  refine k_putI (f := 64) B 1 0 rfl (by decide) rfl (by decide) rfl rfl (fun w h => in_of (uw_1 w h)) (in_of qfRX0_7) tyX0 tyX0_ok nmX0 rfl (tyX0_ok 0 (by decide)) dX0_init_6 h1 ?_
  refine k_aload_n B 0 rfl rfl dX0_init_9 ?_
  refine k_iconst (v := (-1)) B (by decide) dX0_init_10 ?_
  refine k_putI (f := 65) B 1 1 rfl (by decide) rfl (by decide) rfl rfl (fun w h => in_of (uw_1 w h)) (in_of qfRX0_13) tyX0 tyX0_ok nmX0 rfl (tyX0_ok 1 (by decide)) dX0_init_11 h1 ?_
  refine k_aload_n B 0 rfl rfl dX0_init_14 ?_
  refine k_null B dX0_init_15 ?_
  refine k_putP (f := 66) (v := none) B 1 2 rfl (by decide) rfl (by decide) rfl rfl (fun w h => in_of (uw_1 w h)) (in_of qfRX0_16) tyX0 tyX0_ok nmX0 rfl (tyX0_ok 2 (by decide)) rfl rfl dX0_init_16 h1 ?_
  exact ret_V B rfl dX0_init_19 (hq)
theorem bX0_forget_0 (B : Bd p s m args meth c cX0_forget 1 (wsOf yX0_forget cX0_forget 1 none) RX0 w none "forget") {v0 : Nat} {post : St → Prop} (h1 : kd S v0 = 2) (hq : post (sP S 66 v0 none)) : K p l e rX0_forget s m args below meth c 1 w 0 0 (MQ below (va_Qv post (fun S' t => Hd w S' t.heap) (wA w)) args s 0 0 (wA w)) S 0 [(0, .ref v0)] [] := by
  refine k_aload_n B 0 rfl rfl dX0_forget_0 ?_
  refine k_null B dX0_forget_1 ?_
  refine k_putP (f := 66) (v := none) B 1 2 rfl (by decide) rfl (by decide) rfl rfl (fun w h => in_of (uw_1 w h)) (in_of qfRX0_16) tyX0 tyX0_ok nmX0 rfl (tyX0_ok 2 (by decide)) rfl rfl dX0_forget_2 h1 ?_
  exact ret_V B rfl dX0_forget_5 (hq)
theorem bX0_weigh_0 (B : Bd p s m args meth c cX0_weigh 4 (wsOf yX0_weigh cX0_weigh 4 none) RX0 w none "weigh") {v0 : Nat} {v1 : Int32} {v2 : Nat} {v3 : Int32} {Q : State → Prop} (h1 : kd S v0 = 2) (kt : gP S 66 v0 = none → K p l e rX0_weigh s m args below meth c 4 w 0 0 Q S 15 [(0, .ref v0), (1, .int v1), (2, .ref v2), (3, .int v3)] []) (kf : ∀ x, gP S 66 v0 = some x → K p l e rX0_weigh s m args below meth c 4 w 0 0 Q S 7 [(0, .ref v0), (1, .int v1), (2, .ref v2), (3, .int v3)] []) : K p l e rX0_weigh s m args below meth c 4 w 0 0 Q S 0 [(0, .ref v0), (1, .int v1), (2, .ref v2), (3, .int v3)] [] := by
  refine k_aload_n B 0 rfl rfl dX0_weigh_0 ?_
  refine k_getP (f := 66) (r := gP S 66 v0) B 1 2 rfl (by decide) rfl (by decide) rfl rfl (fun w h => in_of (uw_1 w h)) (in_of qfRX0_16) dX0_weigh_1 h1 rfl ?_
  refine k_ifnull (r := gP S 66 v0) (tgt := 15) B dX0_weigh_4 (by decide) (fun c => ?_) (fun x c => ?_)
  · exact kt c
  · exact kf x c
theorem bX0_weigh_7 (B : Bd p s m args meth c cX0_weigh 4 (wsOf yX0_weigh cX0_weigh 4 none) RX0 w none "weigh") {v0 : Nat} {v1 : Int32} {v2 : Nat} {v3 : Int32} {Q : State → Prop} (h1 : kd S v0 = 2) (kt : (gI S 64 v0) ≤ v1 → K p l e rX0_weigh s m args below meth c 4 w 0 0 Q S 30 [] []) (kf : ¬ (gI S 64 v0) ≤ v1 → K p l e rX0_weigh s m args below meth c 4 w 0 0 Q S 15 [(0, .ref v0), (1, .int v1), (2, .ref v2), (3, .int v3)] []) : K p l e rX0_weigh s m args below meth c 4 w 0 0 Q S 7 [(0, .ref v0), (1, .int v1), (2, .ref v2), (3, .int v3)] [] := by
  refine k_iload_n B 1 rfl rfl dX0_weigh_7 ?_
  refine k_aload_n B 0 rfl rfl dX0_weigh_8 ?_
  refine k_getI (f := 64) (v := gI S 64 v0) B 1 0 rfl (by decide) rfl (by decide) rfl rfl (fun w h => in_of (uw_1 w h)) (in_of qfRX0_7) dX0_weigh_9 h1 rfl ?_
  refine k_icmp_ge (tgt := 30) B dX0_weigh_12 (by decide) (fun c => ?_) (fun c => ?_)
  · refine k_sub [] rfl ?_
    exact kt c
  · exact kf c
theorem bX0_weigh_15 (B : Bd p s m args meth c cX0_weigh 4 (wsOf yX0_weigh cX0_weigh 4 none) RX0 w none "weigh") {v0 : Nat} {v1 : Int32} {v2 : Nat} {v3 : Int32} {Q : State → Prop} (h1 : kd S v0 = 2) (kk : K p l e rX0_weigh s m args below meth c 4 w 0 0 Q (sI (sP (sI S 64 v0 v1) 66 v0 (some v2)) 65 v0 v3) 30 [] []) : K p l e rX0_weigh s m args below meth c 4 w 0 0 Q S 15 [(0, .ref v0), (1, .int v1), (2, .ref v2), (3, .int v3)] [] := by
  refine k_aload_n B 0 rfl rfl dX0_weigh_15 ?_
  refine k_iload_n B 1 rfl rfl dX0_weigh_16 ?_
  refine k_putI (f := 64) B 1 0 rfl (by decide) rfl (by decide) rfl rfl (fun w h => in_of (uw_1 w h)) (in_of qfRX0_7) tyX0 tyX0_ok nmX0 rfl (tyX0_ok 0 (by decide)) dX0_weigh_17 h1 ?_
  refine k_aload_n B 0 rfl rfl dX0_weigh_20 ?_
  refine k_aload_n B 2 rfl rfl dX0_weigh_21 ?_
  refine k_putP (f := 66) (v := some v2) B 1 2 rfl (by decide) rfl (by decide) rfl rfl (fun w h => in_of (uw_1 w h)) (in_of qfRX0_16) tyX0 tyX0_ok nmX0 rfl (tyX0_ok 2 (by decide)) rfl rfl dX0_weigh_22 h1 ?_
  refine k_aload_n B 0 rfl rfl dX0_weigh_25 ?_
  refine k_iload_n B 3 rfl rfl dX0_weigh_26 ?_
  refine k_putI (f := 65) B 1 1 rfl (by decide) rfl (by decide) rfl rfl (fun w h => in_of (uw_1 w h)) (in_of qfRX0_13) tyX0 tyX0_ok nmX0 rfl (tyX0_ok 1 (by decide)) dX0_weigh_27 h1 ?_
  refine k_sub [] rfl ?_
  exact kk
theorem bX0_weigh_30 (B : Bd p s m args meth c cX0_weigh 4 (wsOf yX0_weigh cX0_weigh 4 none) RX0 w none "weigh") {post : St → Prop}  (hq : post S) : K p l e rX0_weigh s m args below meth c 4 w 0 0 (MQ below (va_Qv post (fun S' t => Hd w S' t.heap) (wA w)) args s 0 0 (wA w)) S 30 [] [] := by
  exact ret_V B rfl dX0_weigh_30 (hq)
theorem bX1_init_0 (B : Bd p s m args meth c cX1_init 3 (wsOf yX1_init cX1_init 3 none) RX1 w none "<init>") {v0 : Nat} {v1 : Nat} {v2 : Int32} {k n : Nat} {Q : State → Prop} (h1 : k + 1 ≤ rX1_init.cells) (h2 : n + 3 ≤ rX1_init.slots) (kk : ∀ q6 : Nat, kd S q6 = 0 → K p l e rX1_init s m args below meth c 3 w (k + 1) (n + 3) Q (nw S q6 21 3) 8 [(0, .ref v0), (1, .ref v1), (2, .int v2)] [.ref q6, .ref v0]) : K p l e rX1_init s m args below meth c 3 w k n Q S 0 [(0, .ref v0), (1, .ref v1), (2, .int v2)] [] := by
  refine k_aload_n B 0 rfl rfl dX1_init_0 ?_
  refine k_objInit B (in_of qlRX1_3) (in_of qi_obj) (in_of qc_obj) (Nat.le_of_ble_eq_true rfl) (Nat.le_of_ble_eq_true rfl) dX1_init_1 ?_
  refine k_aload_n B 0 rfl rfl dX1_init_4 ?_
  refine k_iconst (v := 3) B (by decide) dX1_init_5 ?_
  refine k_newI (N' := 3) B (in_of qarrI) (by decide) (by decide) (by decide) h1 h2 dX1_init_6 (fun q6 f6 => ?_)
  exact kk q6 f6
theorem bX1_init_8 (B : Bd p s m args meth c cX1_init 3 (wsOf yX1_init cX1_init 3 none) RX1 w none "<init>") {v0 : Nat} {v1 : Nat} {v2 : Int32} {t0 : Nat} {t1 : Nat} {post : St → Prop} {k n : Nat} (h1 : kd S t0 = 3) (h2 : kd S v0 = 3) (hq : post (sI (sP (sI (sP S 130 t0 (some t1)) 131 v0 0) 128 v0 (some v1)) 129 v0 v2)) : K p l e rX1_init s m args below meth c 3 w k n (MQ below (va_Qv post (fun S' t => Hd w S' t.heap) (wA w)) args s k n (wA w)) S 8 [(0, .ref v0), (1, .ref v1), (2, .int v2)] [.ref t1, .ref t0] := by
  refine k_putPF (f := 130) (v := some t1) B 2 2 rfl (by decide) rfl (by decide) rfl rfl (fun w h => in_of (uw_2 w h)) (in_of qfRX1_9) tyX1 tyX1_ok nmX1 rfl rfl rfl (tyX1_ok 2 (by decide)) rfl rfl dX1_init_8 h1 ?_
  refine k_aload_n B 0 rfl rfl dX1_init_11 ?_
  refine k_iconst (v := 0) B (by decide) dX1_init_12 ?_
  refine k_putI (f := 131) B 2 3 rfl (by decide) rfl (by decide) rfl rfl (fun w h => in_of (uw_2 w h)) (in_of qfRX1_15) tyX1 tyX1_ok nmX1 rfl (tyX1_ok 3 (by decide)) dX1_init_13 h2 ?_
  refine k_aload_n B 0 rfl rfl dX1_init_16 ?_
  refine k_aload_n B 1 rfl rfl dX1_init_17 ?_
  refine k_putPF (f := 128) (v := some v1) B 2 0 rfl (by decide) rfl (by decide) rfl rfl (fun w h => in_of (uw_2 w h)) (in_of qfRX1_19) tyX1 tyX1_ok nmX1 rfl rfl rfl (tyX1_ok 0 (by decide)) rfl rfl dX1_init_18 h2 ?_
  refine k_aload_n B 0 rfl rfl dX1_init_21 ?_
  refine k_iload_n B 2 rfl rfl dX1_init_22 ?_
  refine k_putIF (f := 129) B 2 1 rfl (by decide) rfl (by decide) rfl rfl (fun w h => in_of (uw_2 w h)) (in_of qfRX1_23) tyX1 tyX1_ok nmX1 rfl rfl rfl (tyX1_ok 1 (by decide)) dX1_init_23 h2 ?_
  exact ret_V B rfl dX1_init_26 (hq)
theorem bX1_isSomebodyIn_0 (B : Bd p s m args meth c cX1_isSomebodyIn 2 (wsOf yX1_isSomebodyIn cX1_isSomebodyIn 2 (some .boolean)) RX1 w (some .boolean) "isSomebodyIn") {v0 : Nat} {v1 : Int32} {post : Int32 → St → Prop} {Q : State → Prop} (h1 : kd S v0 = 3) (hc : ConI l yX8_hourOf (wsOf yX8_hourOf cX8_hourOf 1 (some .int)) rX8_hourOf w S [.int v1] post) (kk : ∀ (r : Int32) (S' : St), post r S' → K p l e rX1_isSomebodyIn s m args below meth c 2 w 0 0 Q S' 8 [] [.int r, .int (gI S 129 v0)]) : K p l e rX1_isSomebodyIn s m args below meth c 2 w 0 0 Q S 0 [(0, .ref v0), (1, .int v1)] [] := by
  refine k_aload_n B 0 rfl rfl dX1_isSomebodyIn_0 ?_
  refine k_getI (f := 129) (v := gI S 129 v0) B 2 1 rfl (by decide) rfl (by decide) rfl rfl (fun w h => in_of (uw_2 w h)) (in_of qfRX1_23) dX1_isSomebodyIn_1 h1 rfl ?_
  refine k_iload_n B 1 rfl rfl dX1_isSomebodyIn_4 ?_
  refine callS_I (st := [.int (gI S 129 v0)]) B [.int v1] (hc) (va_cwS 1 B.1.2.2.2.2 (gS qlRX1_26 qsX8_hourOf qzRX8 qcX8_hourOf) rfl rfl rfl (by decide +kernel) ⟨Nat.le_of_ble_eq_true rfl, Nat.le_of_ble_eq_true rfl⟩) rfl (Nat.le_of_ble_eq_true rfl) rfl dX1_isSomebodyIn_5 ⟨Nat.le_of_ble_eq_true rfl, Nat.le_of_ble_eq_true rfl⟩ (fun r S' hp => ?_)
  refine k_sub [] rfl ?_
  exact kk r S' hp
theorem bX1_isSomebodyIn_8 (B : Bd p s m args meth c cX1_isSomebodyIn 2 (wsOf yX1_isSomebodyIn cX1_isSomebodyIn 2 (some .boolean)) RX1 w (some .boolean) "isSomebodyIn") {t0 : Int32} {t1 : Int32} {Q : State → Prop}  (kt : ¬ ((t0 >>> (t1 &&& 31)) &&& 1) = 1 → K p l e rX1_isSomebodyIn s m args below meth c 2 w 0 0 Q S 19 [] []) (kf : ((t0 >>> (t1 &&& 31)) &&& 1) = 1 → K p l e rX1_isSomebodyIn s m args below meth c 2 w 0 0 Q S 15 [] []) : K p l e rX1_isSomebodyIn s m args below meth c 2 w 0 0 Q S 8 [] [.int t1, .int t0] := by
  refine k_ishr B dX1_isSomebodyIn_8 ?_
  refine k_iconst (v := 1) B (by decide) dX1_isSomebodyIn_9 ?_
  refine k_iand B dX1_isSomebodyIn_10 ?_
  refine k_iconst (v := 1) B (by decide) dX1_isSomebodyIn_11 ?_
  refine k_icmp_ne (tgt := 19) B dX1_isSomebodyIn_12 (by decide) (fun c => ?_) (fun c => ?_)
  · exact kt c
  · exact kf c
theorem bX1_isSomebodyIn_15 (B : Bd p s m args meth c cX1_isSomebodyIn 2 (wsOf yX1_isSomebodyIn cX1_isSomebodyIn 2 (some .boolean)) RX1 w (some .boolean) "isSomebodyIn") {Q : State → Prop}  (kk : K p l e rX1_isSomebodyIn s m args below meth c 2 w 0 0 Q S 20 [] [.int 1]) : K p l e rX1_isSomebodyIn s m args below meth c 2 w 0 0 Q S 15 [] [] := by
  refine k_iconst (v := 1) B (by decide) dX1_isSomebodyIn_15 ?_
  refine k_goto (tgt := 20) B dX1_isSomebodyIn_16 (by decide) ?_
  exact kk
theorem bX1_isSomebodyIn_19 (B : Bd p s m args meth c cX1_isSomebodyIn 2 (wsOf yX1_isSomebodyIn cX1_isSomebodyIn 2 (some .boolean)) RX1 w (some .boolean) "isSomebodyIn") {Q : State → Prop}  (kk : K p l e rX1_isSomebodyIn s m args below meth c 2 w 0 0 Q S 20 [] [.int 0]) : K p l e rX1_isSomebodyIn s m args below meth c 2 w 0 0 Q S 19 [] [] := by
  refine k_iconst (v := 0) B (by decide) dX1_isSomebodyIn_19 ?_
  exact kk
theorem bX1_isSomebodyIn_20 (B : Bd p s m args meth c cX1_isSomebodyIn 2 (wsOf yX1_isSomebodyIn cX1_isSomebodyIn 2 (some .boolean)) RX1 w (some .boolean) "isSomebodyIn") {t0 : Int32} {post : Int32 → St → Prop}  (hv : t0 = 0 ∨ t0 = 1) (hq : post t0 S) : K p l e rX1_isSomebodyIn s m args below meth c 2 w 0 0 (MQ below (va_Qi post (fun S' t => Hd w S' t.heap) (wA w)) args s 0 0 (wA w)) S 20 [] [.int t0] := by
  exact ret_Z B rfl dX1_isSomebodyIn_20 (hv) (hq)
theorem bX1_hoursFrom_0 (B : Bd p s m args meth c cX1_hoursFrom 4 (wsOf yX1_hoursFrom cX1_hoursFrom 4 (some .int)) RX1 w (some .int) "hoursFrom") {v0 : Nat} {v1 : Int32} {Q : State → Prop}  (kk : K p l e rX1_hoursFrom s m args below meth c 4 w 0 0 Q S 4 [(0, .ref v0), (2, .int 0), (3, .int v1)] []) : K p l e rX1_hoursFrom s m args below meth c 4 w 0 0 Q S 0 [(0, .ref v0), (1, .int v1)] [] := by
  refine k_iconst (v := 0) B (by decide) dX1_hoursFrom_0 ?_
  refine k_istore_n (lst' := [(2, .int 0), (0, .ref v0), (1, .int v1)]) B rfl (by decide) rfl dX1_hoursFrom_1 ?_
  refine k_iload_n B 2 rfl rfl dX1_hoursFrom_2 ?_
  refine k_istore_n (lst' := [(3, .int v1), (2, .int 0), (0, .ref v0), (1, .int v1)]) B rfl (by decide) rfl dX1_hoursFrom_3 ?_
  refine k_sub [2, 1, 0] rfl ?_
  exact kk
theorem bX1_hoursFrom_4 (B : Bd p s m args meth c cX1_hoursFrom 4 (wsOf yX1_hoursFrom cX1_hoursFrom 4 (some .int)) RX1 w (some .int) "hoursFrom") {v0 : Nat} {v2 : Int32} {v3 : Int32} {Q : State → Prop}  (kt : 24 ≤ v3 → K p l e rX1_hoursFrom s m args below meth c 4 w 0 0 Q S 31 [(2, .int v2)] []) (kf : ¬ 24 ≤ v3 → K p l e rX1_hoursFrom s m args below meth c 4 w 0 0 Q S 10 [(0, .ref v0), (2, .int v2), (3, .int v3)] []) : K p l e rX1_hoursFrom s m args below meth c 4 w 0 0 Q S 4 [(0, .ref v0), (2, .int v2), (3, .int v3)] [] := by
  refine k_iload_n B 2 rfl rfl dX1_hoursFrom_4 ?_
  refine k_bipush (v := 24) B (by decide) dX1_hoursFrom_5 ?_
  refine k_icmp_ge (tgt := 31) B dX1_hoursFrom_7 (by decide) (fun c => ?_) (fun c => ?_)
  · refine k_sub [1] rfl ?_
    exact kt c
  · exact kf c
theorem bX1_hoursFrom_10 (B : Bd p s m args meth c cX1_hoursFrom 4 (wsOf yX1_hoursFrom cX1_hoursFrom 4 (some .int)) RX1 w (some .int) "hoursFrom") {v0 : Nat} {v2 : Int32} {v3 : Int32} {Q : State → Prop} (h1 : kd S v0 = 3) (kt : ¬ (((gI S 129 v0) >>> (v3 &&& 31)) &&& 1) = 1 → K p l e rX1_hoursFrom s m args below meth c 4 w 0 0 Q S 31 [(2, .int v2)] []) (kf : (((gI S 129 v0) >>> (v3 &&& 31)) &&& 1) = 1 → K p l e rX1_hoursFrom s m args below meth c 4 w 0 0 Q S 22 [(0, .ref v0), (2, .int v2), (3, .int v3)] []) : K p l e rX1_hoursFrom s m args below meth c 4 w 0 0 Q S 10 [(0, .ref v0), (2, .int v2), (3, .int v3)] [] := by
  refine k_aload_n B 0 rfl rfl dX1_hoursFrom_10 ?_
  refine k_getI (f := 129) (v := gI S 129 v0) B 2 1 rfl (by decide) rfl (by decide) rfl rfl (fun w h => in_of (uw_2 w h)) (in_of qfRX1_23) dX1_hoursFrom_11 h1 rfl ?_
  refine k_iload_n B 2 rfl rfl dX1_hoursFrom_14 ?_
  refine k_ishr B dX1_hoursFrom_15 ?_
  refine k_iconst (v := 1) B (by decide) dX1_hoursFrom_16 ?_
  refine k_iand B dX1_hoursFrom_17 ?_
  refine k_iconst (v := 1) B (by decide) dX1_hoursFrom_18 ?_
  refine k_icmp_ne (tgt := 31) B dX1_hoursFrom_19 (by decide) (fun c => ?_) (fun c => ?_)
  · refine k_sub [1] rfl ?_
    exact kt c
  · exact kf c
theorem bX1_hoursFrom_22 (B : Bd p s m args meth c cX1_hoursFrom 4 (wsOf yX1_hoursFrom cX1_hoursFrom 4 (some .int)) RX1 w (some .int) "hoursFrom") {v0 : Nat} {v2 : Int32} {v3 : Int32} {Q : State → Prop}  (kk : K p l e rX1_hoursFrom s m args below meth c 4 w 0 0 Q S 4 [(0, .ref v0), (2, .int (v2 + 1)), (3, .int (v3 + 1))] []) : K p l e rX1_hoursFrom s m args below meth c 4 w 0 0 Q S 22 [(0, .ref v0), (2, .int v2), (3, .int v3)] [] := by
  refine k_iinc (v := v2 + 1) (lst' := [(2, .int (v2 + 1)), (0, .ref v0), (3, .int v3)]) B 1 rfl rfl (by decide) rfl dX1_hoursFrom_22 ?_
  refine k_iinc (v := v3 + 1) (lst' := [(3, .int (v3 + 1)), (2, .int (v2 + 1)), (0, .ref v0)]) B 2 rfl rfl (by decide) rfl dX1_hoursFrom_25 ?_
  refine k_goto (tgt := 4) B dX1_hoursFrom_28 (by decide) ?_
  refine k_sub [2, 1, 0] rfl ?_
  exact kk
theorem bX1_hoursFrom_31 (B : Bd p s m args meth c cX1_hoursFrom 4 (wsOf yX1_hoursFrom cX1_hoursFrom 4 (some .int)) RX1 w (some .int) "hoursFrom") {v2 : Int32} {post : Int32 → St → Prop}  (hq : post v2 S) : K p l e rX1_hoursFrom s m args below meth c 4 w 0 0 (MQ below (va_Qi post (fun S' t => Hd w S' t.heap) (wA w)) args s 0 0 (wA w)) S 31 [(2, .int v2)] [] := by
  refine k_iload_n B 0 rfl rfl dX1_hoursFrom_31 ?_
  exact ret_I B rfl dX1_hoursFrom_32 (hq)
theorem bX2_init_0 (B : Bd p s m args meth c cX2_init 5 (wsOf yX2_init cX2_init 5 none) RX2 w none "<init>") {v0 : Nat} {v1 : Nat} {v2 : Int32} {v3 : Int32} {v4 : Int32} {k n : Nat} {Q : State → Prop} (h1 : k + 1 ≤ rX2_init.cells) (h2 : n + 3 ≤ rX2_init.slots) (kk : ∀ q6 : Nat, kd S q6 = 0 → K p l e rX2_init s m args below meth c 5 w (k + 1) (n + 3) Q (nw S q6 21 3) 8 [(0, .ref v0), (1, .ref v1), (2, .int v2), (3, .int v3), (4, .int v4)] [.ref q6, .ref v0]) : K p l e rX2_init s m args below meth c 5 w k n Q S 0 [(0, .ref v0), (1, .ref v1), (2, .int v2), (3, .int v3), (4, .int v4)] [] := by
  refine k_aload_n B 0 rfl rfl dX2_init_0 ?_
  refine k_objInit B (in_of qlRX2_3) (in_of qi_obj) (in_of qc_obj) (Nat.le_of_ble_eq_true rfl) (Nat.le_of_ble_eq_true rfl) dX2_init_1 ?_
  refine k_aload_n B 0 rfl rfl dX2_init_4 ?_
  refine k_iconst (v := 3) B (by decide) dX2_init_5 ?_
  refine k_newI (N' := 3) B (in_of qarrI) (by decide) (by decide) (by decide) h1 h2 dX2_init_6 (fun q6 f6 => ?_)
  exact kk q6 f6
theorem bX2_init_8 (B : Bd p s m args meth c cX2_init 5 (wsOf yX2_init cX2_init 5 none) RX2 w none "<init>") {v0 : Nat} {v1 : Nat} {v2 : Int32} {v3 : Int32} {v4 : Int32} {t0 : Nat} {t1 : Nat} {k n : Nat} {Q : State → Prop} (h1 : kd S t0 = 4) (h2 : k + 1 ≤ rX2_init.cells) (h3 : n + 3 ≤ rX2_init.slots) (kk : ∀ q13 : Nat, kd (sP S 193 t0 (some t1)) q13 = 0 → K p l e rX2_init s m args below meth c 5 w (k + 1) (n + 3) Q (nw (sP S 193 t0 (some t1)) q13 21 3) 15 [(0, .ref v0), (1, .ref v1), (2, .int v2), (3, .int v3), (4, .int v4)] [.ref q13, .ref v0]) : K p l e rX2_init s m args below meth c 5 w k n Q S 8 [(0, .ref v0), (1, .ref v1), (2, .int v2), (3, .int v3), (4, .int v4)] [.ref t1, .ref t0] := by
  refine k_putPF (f := 193) (v := some t1) B 3 1 rfl (by decide) rfl (by decide) rfl rfl (fun w h => in_of (uw_3 w h)) (in_of qfRX2_9) tyX2 tyX2_ok nmX2 rfl rfl rfl (tyX2_ok 1 (by decide)) rfl rfl dX2_init_8 h1 ?_
  refine k_aload_n B 0 rfl rfl dX2_init_11 ?_
  refine k_iconst (v := 3) B (by decide) dX2_init_12 ?_
  refine k_newI (N' := 3) B (in_of qarrI) (by decide) (by decide) (by decide) h2 h3 dX2_init_13 (fun q13 f13 => ?_)
  exact kk q13 f13
theorem bX2_init_15 (B : Bd p s m args meth c cX2_init 5 (wsOf yX2_init cX2_init 5 none) RX2 w none "<init>") {v0 : Nat} {v1 : Nat} {v2 : Int32} {v3 : Int32} {v4 : Int32} {t0 : Nat} {t1 : Nat} {x1 : Nat} {x2 : Nat} {x3 : Nat} {post : St → Prop} {k n : Nat} (h1 : kd S t0 = 4) (h2 : kd S v0 = 4) (h3 : gP S 193 v0 = some x1) (h4 : kd S x1 = 21) (h5 : vp_in 0 (ln S x1)) (h6 : gP S 193 v0 = some x2) (h7 : kd S x2 = 21) (h8 : vp_in 1 (ln S x2)) (h9 : gP S 193 v0 = some x3) (h10 : kd S x3 = 21) (h11 : vp_in 2 (ln S x3)) (hq : post (sRI (sRI (sRI (sP (sP S 194 t0 (some t1)) 192 v0 (some v1)) x1 (va_up (rI S x1) (0 : Int32).toNatClampNeg v2)) x2 (va_up (rI (sRI (sP (sP S 194 t0 (some t1)) 192 v0 (some v1)) x1 (va_up (rI S x1) (0 : Int32).toNatClampNeg v2)) x2) (1 : Int32).toNatClampNeg v3)) x3 (va_up (rI (sRI (sRI (sP (sP S 194 t0 (some t1)) 192 v0 (some v1)) x1 (va_up (rI S x1) (0 : Int32).toNatClampNeg v2)) x2 (va_up (rI (sRI (sP (sP S 194 t0 (some t1)) 192 v0 (some v1)) x1 (va_up (rI S x1) (0 : Int32).toNatClampNeg v2)) x2) (1 : Int32).toNatClampNeg v3)) x3) (2 : Int32).toNatClampNeg v4))) : K p l e rX2_init s m args below meth c 5 w k n (MQ below (va_Qv post (fun S' t => Hd w S' t.heap) (wA w)) args s k n (wA w)) S 15 [(0, .ref v0), (1, .ref v1), (2, .int v2), (3, .int v3), (4, .int v4)] [.ref t1, .ref t0] := by
  refine k_putPF (f := 194) (v := some t1) B 3 2 rfl (by decide) rfl (by decide) rfl rfl (fun w h => in_of (uw_3 w h)) (in_of qfRX2_15) tyX2 tyX2_ok nmX2 rfl rfl rfl (tyX2_ok 2 (by decide)) rfl rfl dX2_init_15 h1 ?_
  refine k_aload_n B 0 rfl rfl dX2_init_18 ?_
  refine k_aload_n B 1 rfl rfl dX2_init_19 ?_
  refine k_putPF (f := 192) (v := some v1) B 3 0 rfl (by decide) rfl (by decide) rfl rfl (fun w h => in_of (uw_3 w h)) (in_of qfRX2_18) tyX2 tyX2_ok nmX2 rfl rfl rfl (tyX2_ok 0 (by decide)) rfl rfl dX2_init_20 h2 ?_
  refine k_aload_n B 0 rfl rfl dX2_init_23 ?_
  refine k_getP (f := 193) (r := gP S 193 v0) B 3 1 rfl (by decide) rfl (by decide) rfl rfl (fun w h => in_of (uw_3 w h)) (in_of qfRX2_9) dX2_init_24 h2 rfl ?_
  rw [h3]; change K _ _ _ _ _ _ _ _ _ _ _ _ _ _ _ _ _ _ (.ref x1 :: _)
  refine k_iconst (v := 0) B (by decide) dX2_init_27 ?_
  refine k_iload_n B 2 rfl rfl dX2_init_28 ?_
  refine k_iast (g := rI S x1) (S' := sRI (sP (sP S 194 t0 (some t1)) 192 v0 (some v1)) x1 (va_up (rI S x1) (0 : Int32).toNatClampNeg v2)) B dX2_init_29 h4 h5 rfl rfl ?_
  refine k_aload_n B 0 rfl rfl dX2_init_30 ?_
  refine k_getP (f := 193) (r := gP S 193 v0) B 3 1 rfl (by decide) rfl (by decide) rfl rfl (fun w h => in_of (uw_3 w h)) (in_of qfRX2_9) dX2_init_31 h2 rfl ?_
  rw [h6]; change K _ _ _ _ _ _ _ _ _ _ _ _ _ _ _ _ _ _ (.ref x2 :: _)
  refine k_iconst (v := 1) B (by decide) dX2_init_34 ?_
  refine k_iload_n B 3 rfl rfl dX2_init_35 ?_
  refine k_iast (g := rI (sRI (sP (sP S 194 t0 (some t1)) 192 v0 (some v1)) x1 (va_up (rI S x1) (0 : Int32).toNatClampNeg v2)) x2) (S' := sRI (sRI (sP (sP S 194 t0 (some t1)) 192 v0 (some v1)) x1 (va_up (rI S x1) (0 : Int32).toNatClampNeg v2)) x2 (va_up (rI (sRI (sP (sP S 194 t0 (some t1)) 192 v0 (some v1)) x1 (va_up (rI S x1) (0 : Int32).toNatClampNeg v2)) x2) (1 : Int32).toNatClampNeg v3)) B dX2_init_36 h7 h8 rfl rfl ?_
  refine k_aload_n B 0 rfl rfl dX2_init_37 ?_
  refine k_getP (f := 193) (r := gP S 193 v0) B 3 1 rfl (by decide) rfl (by decide) rfl rfl (fun w h => in_of (uw_3 w h)) (in_of qfRX2_9) dX2_init_38 h2 rfl ?_
  rw [h9]; change K _ _ _ _ _ _ _ _ _ _ _ _ _ _ _ _ _ _ (.ref x3 :: _)
  refine k_iconst (v := 2) B (by decide) dX2_init_41 ?_
  refine k_iload B 4 rfl dX2_init_42 ?_
  refine k_iast (g := rI (sRI (sRI (sP (sP S 194 t0 (some t1)) 192 v0 (some v1)) x1 (va_up (rI S x1) (0 : Int32).toNatClampNeg v2)) x2 (va_up (rI (sRI (sP (sP S 194 t0 (some t1)) 192 v0 (some v1)) x1 (va_up (rI S x1) (0 : Int32).toNatClampNeg v2)) x2) (1 : Int32).toNatClampNeg v3)) x3) (S' := sRI (sRI (sRI (sP (sP S 194 t0 (some t1)) 192 v0 (some v1)) x1 (va_up (rI S x1) (0 : Int32).toNatClampNeg v2)) x2 (va_up (rI (sRI (sP (sP S 194 t0 (some t1)) 192 v0 (some v1)) x1 (va_up (rI S x1) (0 : Int32).toNatClampNeg v2)) x2) (1 : Int32).toNatClampNeg v3)) x3 (va_up (rI (sRI (sRI (sP (sP S 194 t0 (some t1)) 192 v0 (some v1)) x1 (va_up (rI S x1) (0 : Int32).toNatClampNeg v2)) x2 (va_up (rI (sRI (sP (sP S 194 t0 (some t1)) 192 v0 (some v1)) x1 (va_up (rI S x1) (0 : Int32).toNatClampNeg v2)) x2) (1 : Int32).toNatClampNeg v3)) x3) (2 : Int32).toNatClampNeg v4)) B dX2_init_44 h10 h11 rfl rfl ?_
  exact ret_V B rfl dX2_init_45 (hq)
theorem bX2_boxFor_0 (B : Bd p s m args meth c cX2_boxFor 3 (wsOf yX2_boxFor cX2_boxFor 3 (some .int)) RX2 w (some .int) "boxFor") {v0 : Nat} {v1 : Int32} {Q : State → Prop}  (kk : K p l e rX2_boxFor s m args below meth c 3 w 0 0 Q S 2 [(0, .ref v0), (1, .int v1), (2, .int 0)] []) : K p l e rX2_boxFor s m args below meth c 3 w 0 0 Q S 0 [(0, .ref v0), (1, .int v1)] [] := by
  refine k_iconst (v := 0) B (by decide) dX2_boxFor_0 ?_
  refine k_istore_n (lst' := [(2, .int 0), (0, .ref v0), (1, .int v1)]) B rfl (by decide) rfl dX2_boxFor_1 ?_
  refine k_sub [1, 2, 0] rfl ?_
  exact kk
theorem bX2_boxFor_2 (B : Bd p s m args meth c cX2_boxFor 3 (wsOf yX2_boxFor cX2_boxFor 3 (some .int)) RX2 w (some .int) "boxFor") {v0 : Nat} {v1 : Int32} {v2 : Int32} {Q : State → Prop}  (kt : 3 ≤ v2 → K p l e rX2_boxFor s m args below meth c 3 w 0 0 Q S 33 [] []) (kf : ¬ 3 ≤ v2 → K p l e rX2_boxFor s m args below meth c 3 w 0 0 Q S 7 [(0, .ref v0), (1, .int v1), (2, .int v2)] []) : K p l e rX2_boxFor s m args below meth c 3 w 0 0 Q S 2 [(0, .ref v0), (1, .int v1), (2, .int v2)] [] := by
  refine k_iload_n B 2 rfl rfl dX2_boxFor_2 ?_
  refine k_iconst (v := 3) B (by decide) dX2_boxFor_3 ?_
  refine k_icmp_ge (tgt := 33) B dX2_boxFor_4 (by decide) (fun c => ?_) (fun c => ?_)
  · refine k_sub [] rfl ?_
    exact kt c
  · exact kf c
theorem bX2_boxFor_7 (B : Bd p s m args meth c cX2_boxFor 3 (wsOf yX2_boxFor cX2_boxFor 3 (some .int)) RX2 w (some .int) "boxFor") {v0 : Nat} {v1 : Int32} {v2 : Int32} {Q : State → Prop} (h1 : vp_in v2 3) (kt : (if v2.toNatClampNeg = 0 then 5 else if v2.toNatClampNeg = 1 then 15 else 40) < v1 → K p l e rX2_boxFor s m args below meth c 3 w 0 0 Q S 27 [(0, .ref v0), (1, .int v1), (2, .int v2)] []) (kf : ¬ (if v2.toNatClampNeg = 0 then 5 else if v2.toNatClampNeg = 1 then 15 else 40) < v1 → K p l e rX2_boxFor s m args below meth c 3 w 0 0 Q S 16 [(0, .ref v0), (1, .int v1), (2, .int v2)] []) : K p l e rX2_boxFor s m args below meth c 3 w 0 0 Q S 7 [(0, .ref v0), (1, .int v1), (2, .int v2)] [] := by
  refine k_iload_n B 1 rfl rfl dX2_boxFor_7 ?_
  refine k_box (host := "LastMile") B (nzF_0 B.2.2.2.1.2.2.2.1) dX2_boxFor_8 ?_
  refine k_iload_n B 2 rfl rfl dX2_boxFor_11 ?_
  refine k_boxv (v := if v2.toNatClampNeg = 0 then 5 else if v2.toNatClampNeg = 1 then 15 else 40) B dX2_boxFor_12 h1 rfl ?_
  refine k_icmp_gt (tgt := 27) B dX2_boxFor_13 (by decide) (fun c => ?_) (fun c => ?_)
  · exact kt c
  · exact kf c
theorem bX2_boxFor_16 (B : Bd p s m args meth c cX2_boxFor 3 (wsOf yX2_boxFor cX2_boxFor 3 (some .int)) RX2 w (some .int) "boxFor") {v0 : Nat} {v1 : Int32} {v2 : Int32} {x1 : Nat} {Q : State → Prop} (h1 : kd S v0 = 4) (h2 : gP S 193 v0 = some x1) (h3 : kd S x1 = 21) (h4 : vp_in v2 (ln S x1)) (kt : ((rI S x1) v2.toNatClampNeg) ≤ 0 → K p l e rX2_boxFor s m args below meth c 3 w 0 0 Q S 27 [(0, .ref v0), (1, .int v1), (2, .int v2)] []) (kf : ¬ ((rI S x1) v2.toNatClampNeg) ≤ 0 → K p l e rX2_boxFor s m args below meth c 3 w 0 0 Q S 25 [(2, .int v2)] []) : K p l e rX2_boxFor s m args below meth c 3 w 0 0 Q S 16 [(0, .ref v0), (1, .int v1), (2, .int v2)] [] := by
  refine k_aload_n B 0 rfl rfl dX2_boxFor_16 ?_
  refine k_getP (f := 193) (r := gP S 193 v0) B 3 1 rfl (by decide) rfl (by decide) rfl rfl (fun w h => in_of (uw_3 w h)) (in_of qfRX2_9) dX2_boxFor_17 h1 rfl ?_
  rw [h2]; change K _ _ _ _ _ _ _ _ _ _ _ _ _ _ _ _ _ _ (.ref x1 :: _)
  refine k_iload_n B 2 rfl rfl dX2_boxFor_20 ?_
  refine k_iald (v := (rI S x1) v2.toNatClampNeg) B dX2_boxFor_21 h3 h4 rfl ?_
  refine k_if_le (tgt := 27) B dX2_boxFor_22 (by decide) (fun c => ?_) (fun c => ?_)
  · exact kt c
  · refine k_sub [2] rfl ?_
    exact kf c
theorem bX2_boxFor_25 (B : Bd p s m args meth c cX2_boxFor 3 (wsOf yX2_boxFor cX2_boxFor 3 (some .int)) RX2 w (some .int) "boxFor") {v2 : Int32} {post : Int32 → St → Prop}  (hq : post v2 S) : K p l e rX2_boxFor s m args below meth c 3 w 0 0 (MQ below (va_Qi post (fun S' t => Hd w S' t.heap) (wA w)) args s 0 0 (wA w)) S 25 [(2, .int v2)] [] := by
  refine k_iload_n B 0 rfl rfl dX2_boxFor_25 ?_
  exact ret_I B rfl dX2_boxFor_26 (hq)
theorem bX2_boxFor_27 (B : Bd p s m args meth c cX2_boxFor 3 (wsOf yX2_boxFor cX2_boxFor 3 (some .int)) RX2 w (some .int) "boxFor") {v0 : Nat} {v1 : Int32} {v2 : Int32} {Q : State → Prop}  (kk : K p l e rX2_boxFor s m args below meth c 3 w 0 0 Q S 2 [(0, .ref v0), (1, .int v1), (2, .int (v2 + 1))] []) : K p l e rX2_boxFor s m args below meth c 3 w 0 0 Q S 27 [(0, .ref v0), (1, .int v1), (2, .int v2)] [] := by
  refine k_iinc (v := v2 + 1) (lst' := [(2, .int (v2 + 1)), (0, .ref v0), (1, .int v1)]) B 2 rfl rfl (by decide) rfl dX2_boxFor_27 ?_
  refine k_goto (tgt := 2) B dX2_boxFor_30 (by decide) ?_
  refine k_sub [1, 2, 0] rfl ?_
  exact kk
theorem bX2_boxFor_33 (B : Bd p s m args meth c cX2_boxFor 3 (wsOf yX2_boxFor cX2_boxFor 3 (some .int)) RX2 w (some .int) "boxFor") {post : Int32 → St → Prop}  (hq : post (-1) S) : K p l e rX2_boxFor s m args below meth c 3 w 0 0 (MQ below (va_Qi post (fun S' t => Hd w S' t.heap) (wA w)) args s 0 0 (wA w)) S 33 [] [] := by
  refine k_iconst (v := (-1)) B (by decide) dX2_boxFor_33 ?_
  exact ret_I B rfl dX2_boxFor_34 (hq)
theorem bX2_keep_0 (B : Bd p s m args meth c cX2_keep 1 (wsOf yX2_keep cX2_keep 1 none) RX2 w none "keep") {v0 : Nat} {x1 : Nat} {x2 : Nat} {post : St → Prop} (h1 : kd S v0 = 4) (h2 : gP S 193 v0 = some x1) (h3 : gP S 194 v0 = some x2) (h4 : kd S x1 = 21) (h5 : kd S x2 = 21) (h6 : (0 : Int32).toNatClampNeg + (3 : Int32).toNatClampNeg ≤ ln S x1) (h7 : (0 : Int32).toNatClampNeg + (3 : Int32).toNatClampNeg ≤ ln S x2) (hq : post (sRI S x2 (va_cpy (rI S x1) (rI S x2) (0 : Int32).toNatClampNeg (0 : Int32).toNatClampNeg (3 : Int32).toNatClampNeg))) : K p l e rX2_keep s m args below meth c 1 w 0 0 (MQ below (va_Qv post (fun S' t => Hd w S' t.heap) (wA w)) args s 0 0 (wA w)) S 0 [(0, .ref v0)] [] := by
  refine k_aload_n B 0 rfl rfl dX2_keep_0 ?_
  refine k_getP (f := 193) (r := gP S 193 v0) B 3 1 rfl (by decide) rfl (by decide) rfl rfl (fun w h => in_of (uw_3 w h)) (in_of qfRX2_9) dX2_keep_1 h1 rfl ?_
  rw [h2]; change K _ _ _ _ _ _ _ _ _ _ _ _ _ _ _ _ _ _ (.ref x1 :: _)
  refine k_iconst (v := 0) B (by decide) dX2_keep_4 ?_
  refine k_aload_n B 0 rfl rfl dX2_keep_5 ?_
  refine k_getP (f := 194) (r := gP S 194 v0) B 3 2 rfl (by decide) rfl (by decide) rfl rfl (fun w h => in_of (uw_3 w h)) (in_of qfRX2_15) dX2_keep_6 h1 rfl ?_
  rw [h3]; change K _ _ _ _ _ _ _ _ _ _ _ _ _ _ _ _ _ _ (.ref x2 :: _)
  refine k_iconst (v := 0) B (by decide) dX2_keep_9 ?_
  refine k_iconst (v := 3) B (by decide) dX2_keep_10 ?_
  refine k_acopy B (in_of qlRX2_25) (in_of qnat_copy) (in_of qs_copy) (in_of qz_System) h4 h5 (by decide) (by decide) (by decide) h6 h7 (Nat.le_of_ble_eq_true rfl) (Nat.le_of_ble_eq_true rfl) dX2_keep_11 ?_
  exact ret_V B rfl dX2_keep_14 (hq)
theorem bX2_giveBack_0 (B : Bd p s m args meth c cX2_giveBack 1 (wsOf yX2_giveBack cX2_giveBack 1 none) RX2 w none "giveBack") {v0 : Nat} {x1 : Nat} {x2 : Nat} {post : St → Prop} (h1 : kd S v0 = 4) (h2 : gP S 194 v0 = some x1) (h3 : gP S 193 v0 = some x2) (h4 : kd S x1 = 21) (h5 : kd S x2 = 21) (h6 : (0 : Int32).toNatClampNeg + (3 : Int32).toNatClampNeg ≤ ln S x1) (h7 : (0 : Int32).toNatClampNeg + (3 : Int32).toNatClampNeg ≤ ln S x2) (hq : post (sRI S x2 (va_cpy (rI S x1) (rI S x2) (0 : Int32).toNatClampNeg (0 : Int32).toNatClampNeg (3 : Int32).toNatClampNeg))) : K p l e rX2_giveBack s m args below meth c 1 w 0 0 (MQ below (va_Qv post (fun S' t => Hd w S' t.heap) (wA w)) args s 0 0 (wA w)) S 0 [(0, .ref v0)] [] := by
  refine k_aload_n B 0 rfl rfl dX2_giveBack_0 ?_
  refine k_getP (f := 194) (r := gP S 194 v0) B 3 2 rfl (by decide) rfl (by decide) rfl rfl (fun w h => in_of (uw_3 w h)) (in_of qfRX2_15) dX2_giveBack_1 h1 rfl ?_
  rw [h2]; change K _ _ _ _ _ _ _ _ _ _ _ _ _ _ _ _ _ _ (.ref x1 :: _)
  refine k_iconst (v := 0) B (by decide) dX2_giveBack_4 ?_
  refine k_aload_n B 0 rfl rfl dX2_giveBack_5 ?_
  refine k_getP (f := 193) (r := gP S 193 v0) B 3 1 rfl (by decide) rfl (by decide) rfl rfl (fun w h => in_of (uw_3 w h)) (in_of qfRX2_9) dX2_giveBack_6 h1 rfl ?_
  rw [h3]; change K _ _ _ _ _ _ _ _ _ _ _ _ _ _ _ _ _ _ (.ref x2 :: _)
  refine k_iconst (v := 0) B (by decide) dX2_giveBack_9 ?_
  refine k_iconst (v := 3) B (by decide) dX2_giveBack_10 ?_
  refine k_acopy B (in_of qlRX2_25) (in_of qnat_copy) (in_of qs_copy) (in_of qz_System) h4 h5 (by decide) (by decide) (by decide) h6 h7 (Nat.le_of_ble_eq_true rfl) (Nat.le_of_ble_eq_true rfl) dX2_giveBack_11 ?_
  exact ret_V B rfl dX2_giveBack_14 (hq)
theorem bX3_init_0 (B : Bd p s m args meth c cX3_init 8 (wsOf yX3_init cX3_init 8 none) RX3 w none "<init>") {v0 : Nat} {v1 : Int32} {v2 : Int32} {v3 : Int32} {v4 : Int32} {v5 : Nat} {v6 : Int32} {v7 : Int32} {k n : Nat} {Q : State → Prop} (h1 : kd S v0 = 5) (h2 : k + 1 ≤ rX3_init.cells) (h3 : n + 5 ≤ rX3_init.slots) (kk : ∀ q36 : Nat, kd (sI (sI (sI (sI (sI (sP S 263 v0 none) 264 v0 0) 265 v0 0) 266 v0 (-1)) 267 v0 (-1)) 268 v0 0) q36 = 0 → K p l e rX3_init s m args below meth c 8 w (k + 1) (n + 5) Q (nw (sI (sI (sI (sI (sI (sP S 263 v0 none) 264 v0 0) 265 v0 0) 266 v0 (-1)) 267 v0 (-1)) 268 v0 0) q36 21 5) 38 [(0, .ref v0), (1, .int v1), (2, .int v2), (3, .int v3), (4, .int v4), (5, .ref v5), (6, .int v6), (7, .int v7)] [.ref q36, .ref v0]) : K p l e rX3_init s m args below meth c 8 w k n Q S 0 [(0, .ref v0), (1, .int v1), (2, .int v2), (3, .int v3), (4, .int v4), (5, .ref v5), (6, .int v6), (7, .int v7)] [] := by
  refine k_aload_n B 0 rfl rfl dX3_init_0 ?_
  refine k_objInit B (in_of qlRX3_3) (in_of qi_obj) (in_of qc_obj) (Nat.le_of_ble_eq_true rfl) (Nat.le_of_ble_eq_true rfl) dX3_init_1 ?_
  refine k_aload_n B 0 rfl rfl dX3_init_4 ?_
  refine k_null B dX3_init_5 ?_
  refine k_putP (f := 263) (v := none) B 4 7 rfl (by decide) rfl (by decide) rfl rfl (fun w h => in_of (uw_4 w h)) (in_of qfRX3_9) tyX3 tyX3_ok nmX3 rfl (tyX3_ok 7 (by decide)) rfl rfl dX3_init_6 h1 ?_
  refine k_aload_n B 0 rfl rfl dX3_init_9 ?_
  refine k_iconst (v := 0) B (by decide) dX3_init_10 ?_
  refine k_putI (f := 264) B 4 8 rfl (by decide) rfl (by decide) rfl rfl (fun w h => in_of (uw_4 w h)) (in_of qfRX3_15) tyX3 tyX3_ok nmX3 rfl (tyX3_ok 8 (by decide)) dX3_init_11 h1 ?_
  refine k_aload_n B 0 rfl rfl dX3_init_14 ?_
  refine k_iconst (v := 0) B (by decide) dX3_init_15 ?_
  refine k_putI (f := 265) B 4 9 rfl (by decide) rfl (by decide) rfl rfl (fun w h => in_of (uw_4 w h)) (in_of qfRX3_19) tyX3 tyX3_ok nmX3 rfl (tyX3_ok 9 (by decide)) dX3_init_16 h1 ?_
  refine k_aload_n B 0 rfl rfl dX3_init_19 ?_
  refine k_iconst (v := (-1)) B (by decide) dX3_init_20 ?_
  refine k_putI (f := 266) B 4 10 rfl (by decide) rfl (by decide) rfl rfl (fun w h => in_of (uw_4 w h)) (in_of qfRX3_22) tyX3 tyX3_ok nmX3 rfl (tyX3_ok 10 (by decide)) dX3_init_21 h1 ?_
  refine k_aload_n B 0 rfl rfl dX3_init_24 ?_
  refine k_iconst (v := (-1)) B (by decide) dX3_init_25 ?_
  refine k_putI (f := 267) B 4 11 rfl (by decide) rfl (by decide) rfl rfl (fun w h => in_of (uw_4 w h)) (in_of qfRX3_25) tyX3 tyX3_ok nmX3 rfl (tyX3_ok 11 (by decide)) dX3_init_26 h1 ?_
  refine k_aload_n B 0 rfl rfl dX3_init_29 ?_
  refine k_iconst (v := 0) B (by decide) dX3_init_30 ?_
  refine k_putI (f := 268) B 4 12 rfl (by decide) rfl (by decide) rfl rfl (fun w h => in_of (uw_4 w h)) (in_of qfRX3_28) tyX3 tyX3_ok nmX3 rfl (tyX3_ok 12 (by decide)) dX3_init_31 h1 ?_
  refine k_aload_n B 0 rfl rfl dX3_init_34 ?_
  refine k_iconst (v := 5) B (by decide) dX3_init_35 ?_
  refine k_newI (N' := 5) B (in_of qarrI) (by decide) (by decide) (by decide) h2 h3 dX3_init_36 (fun q36 f36 => ?_)
  exact kk q36 f36
theorem bX3_init_38 (B : Bd p s m args meth c cX3_init 8 (wsOf yX3_init cX3_init 8 none) RX3 w none "<init>") {v0 : Nat} {v1 : Int32} {v2 : Int32} {v3 : Int32} {v4 : Int32} {v5 : Nat} {v6 : Int32} {v7 : Int32} {t0 : Nat} {t1 : Nat} {post : St → Prop} {k n : Nat} (h1 : kd S t0 = 5) (h2 : kd S v0 = 5) (hq : post (sI (sI (sP (sI (sI (sI (sI (sP S 269 t0 (some t1)) 256 v0 v1) 257 v0 v2) 258 v0 v3) 259 v0 v4) 260 v0 (some v5)) 261 v0 v6) 262 v0 v7)) : K p l e rX3_init s m args below meth c 8 w k n (MQ below (va_Qv post (fun S' t => Hd w S' t.heap) (wA w)) args s k n (wA w)) S 38 [(0, .ref v0), (1, .int v1), (2, .int v2), (3, .int v3), (4, .int v4), (5, .ref v5), (6, .int v6), (7, .int v7)] [.ref t1, .ref t0] := by
  refine k_putPF (f := 269) (v := some t1) B 4 13 rfl (by decide) rfl (by decide) rfl rfl (fun w h => in_of (uw_4 w h)) (in_of qfRX3_31) tyX3 tyX3_ok nmX3 rfl rfl rfl (tyX3_ok 13 (by decide)) rfl rfl dX3_init_38 h1 ?_
  refine k_aload_n B 0 rfl rfl dX3_init_41 ?_
  refine k_iload_n B 1 rfl rfl dX3_init_42 ?_
  refine k_putIF (f := 256) B 4 0 rfl (by decide) rfl (by decide) rfl rfl (fun w h => in_of (uw_4 w h)) (in_of qfRX3_35) tyX3 tyX3_ok nmX3 rfl rfl rfl (tyX3_ok 0 (by decide)) dX3_init_43 h2 ?_
  refine k_aload_n B 0 rfl rfl dX3_init_46 ?_
  refine k_iload_n B 2 rfl rfl dX3_init_47 ?_
  refine k_putIF (f := 257) B 4 1 rfl (by decide) rfl (by decide) rfl rfl (fun w h => in_of (uw_4 w h)) (in_of qfRX3_38) tyX3 tyX3_ok nmX3 rfl rfl rfl (tyX3_ok 1 (by decide)) dX3_init_48 h2 ?_
  refine k_aload_n B 0 rfl rfl dX3_init_51 ?_
  refine k_iload_n B 3 rfl rfl dX3_init_52 ?_
  refine k_putIF (f := 258) B 4 2 rfl (by decide) rfl (by decide) rfl rfl (fun w h => in_of (uw_4 w h)) (in_of qfRX3_41) tyX3 tyX3_ok nmX3 rfl rfl rfl (tyX3_ok 2 (by decide)) dX3_init_53 h2 ?_
  refine k_aload_n B 0 rfl rfl dX3_init_56 ?_
  refine k_iload B 4 rfl dX3_init_57 ?_
  refine k_putIF (f := 259) B 4 3 rfl (by decide) rfl (by decide) rfl rfl (fun w h => in_of (uw_4 w h)) (in_of qfRX3_44) tyX3 tyX3_ok nmX3 rfl rfl rfl (tyX3_ok 3 (by decide)) dX3_init_59 h2 ?_
  refine k_aload_n B 0 rfl rfl dX3_init_62 ?_
  refine k_aload B 5 rfl dX3_init_63 ?_
  refine k_putPF (f := 260) (v := some v5) B 4 4 rfl (by decide) rfl (by decide) rfl rfl (fun w h => in_of (uw_4 w h)) (in_of qfRX3_47) tyX3 tyX3_ok nmX3 rfl rfl rfl (tyX3_ok 4 (by decide)) rfl rfl dX3_init_65 h2 ?_
  refine k_aload_n B 0 rfl rfl dX3_init_68 ?_
  refine k_iload B 6 rfl dX3_init_69 ?_
  refine k_putIF (f := 261) B 4 5 rfl (by decide) rfl (by decide) rfl rfl (fun w h => in_of (uw_4 w h)) (in_of qfRX3_51) tyX3 tyX3_ok nmX3 rfl rfl rfl (tyX3_ok 5 (by decide)) dX3_init_71 h2 ?_
  refine k_aload_n B 0 rfl rfl dX3_init_74 ?_
  refine k_iload B 7 rfl dX3_init_75 ?_
  refine k_putIF (f := 262) B 4 6 rfl (by decide) rfl (by decide) rfl rfl (fun w h => in_of (uw_4 w h)) (in_of qfRX3_54) tyX3 tyX3_ok nmX3 rfl rfl rfl (tyX3_ok 6 (by decide)) dX3_init_77 h2 ?_
  exact ret_V B rfl dX3_init_80 (hq)
theorem bX3_keep_0 (B : Bd p s m args meth c cX3_keep 1 (wsOf yX3_keep cX3_keep 1 none) RX3 w none "keep") {v0 : Nat} {x1 : Nat} {x2 : Nat} {x3 : Nat} {x4 : Nat} {x5 : Nat} {post : St → Prop} (h1 : kd S v0 = 5) (h2 : gP S 269 v0 = some x1) (h3 : kd S x1 = 21) (h4 : vp_in 0 (ln S x1)) (h5 : gP S 269 v0 = some x2) (h6 : kd S x2 = 21) (h7 : vp_in 1 (ln S x2)) (h8 : gP S 269 v0 = some x3) (h9 : kd S x3 = 21) (h10 : vp_in 2 (ln S x3)) (h11 : gP S 269 v0 = some x4) (h12 : kd S x4 = 21) (h13 : vp_in 3 (ln S x4)) (h14 : gP S 269 v0 = some x5) (h15 : kd S x5 = 21) (h16 : vp_in 4 (ln S x5)) (hq : post (sRI (sRI (sRI (sRI (sRI S x1 (va_up (rI S x1) (0 : Int32).toNatClampNeg (gI S 264 v0))) x2 (va_up (rI (sRI S x1 (va_up (rI S x1) (0 : Int32).toNatClampNeg (gI S 264 v0))) x2) (1 : Int32).toNatClampNeg (gI S 265 v0))) x3 (va_up (rI (sRI (sRI S x1 (va_up (rI S x1) (0 : Int32).toNatClampNeg (gI S 264 v0))) x2 (va_up (rI (sRI S x1 (va_up (rI S x1) (0 : Int32).toNatClampNeg (gI S 264 v0))) x2) (1 : Int32).toNatClampNeg (gI S 265 v0))) x3) (2 : Int32).toNatClampNeg (gI S 266 v0))) x4 (va_up (rI (sRI (sRI (sRI S x1 (va_up (rI S x1) (0 : Int32).toNatClampNeg (gI S 264 v0))) x2 (va_up (rI (sRI S x1 (va_up (rI S x1) (0 : Int32).toNatClampNeg (gI S 264 v0))) x2) (1 : Int32).toNatClampNeg (gI S 265 v0))) x3 (va_up (rI (sRI (sRI S x1 (va_up (rI S x1) (0 : Int32).toNatClampNeg (gI S 264 v0))) x2 (va_up (rI (sRI S x1 (va_up (rI S x1) (0 : Int32).toNatClampNeg (gI S 264 v0))) x2) (1 : Int32).toNatClampNeg (gI S 265 v0))) x3) (2 : Int32).toNatClampNeg (gI S 266 v0))) x4) (3 : Int32).toNatClampNeg (gI S 267 v0))) x5 (va_up (rI (sRI (sRI (sRI (sRI S x1 (va_up (rI S x1) (0 : Int32).toNatClampNeg (gI S 264 v0))) x2 (va_up (rI (sRI S x1 (va_up (rI S x1) (0 : Int32).toNatClampNeg (gI S 264 v0))) x2) (1 : Int32).toNatClampNeg (gI S 265 v0))) x3 (va_up (rI (sRI (sRI S x1 (va_up (rI S x1) (0 : Int32).toNatClampNeg (gI S 264 v0))) x2 (va_up (rI (sRI S x1 (va_up (rI S x1) (0 : Int32).toNatClampNeg (gI S 264 v0))) x2) (1 : Int32).toNatClampNeg (gI S 265 v0))) x3) (2 : Int32).toNatClampNeg (gI S 266 v0))) x4 (va_up (rI (sRI (sRI (sRI S x1 (va_up (rI S x1) (0 : Int32).toNatClampNeg (gI S 264 v0))) x2 (va_up (rI (sRI S x1 (va_up (rI S x1) (0 : Int32).toNatClampNeg (gI S 264 v0))) x2) (1 : Int32).toNatClampNeg (gI S 265 v0))) x3 (va_up (rI (sRI (sRI S x1 (va_up (rI S x1) (0 : Int32).toNatClampNeg (gI S 264 v0))) x2 (va_up (rI (sRI S x1 (va_up (rI S x1) (0 : Int32).toNatClampNeg (gI S 264 v0))) x2) (1 : Int32).toNatClampNeg (gI S 265 v0))) x3) (2 : Int32).toNatClampNeg (gI S 266 v0))) x4) (3 : Int32).toNatClampNeg (gI S 267 v0))) x5) (4 : Int32).toNatClampNeg (gI S 268 v0)))) : K p l e rX3_keep s m args below meth c 1 w 0 0 (MQ below (va_Qv post (fun S' t => Hd w S' t.heap) (wA w)) args s 0 0 (wA w)) S 0 [(0, .ref v0)] [] := by
  refine k_aload_n B 0 rfl rfl dX3_keep_0 ?_
  refine k_getP (f := 269) (r := gP S 269 v0) B 4 13 rfl (by decide) rfl (by decide) rfl rfl (fun w h => in_of (uw_4 w h)) (in_of qfRX3_31) dX3_keep_1 h1 rfl ?_
  rw [h2]; change K _ _ _ _ _ _ _ _ _ _ _ _ _ _ _ _ _ _ (.ref x1 :: _)
  refine k_iconst (v := 0) B (by decide) dX3_keep_4 ?_
  refine k_aload_n B 0 rfl rfl dX3_keep_5 ?_
  refine k_getI (f := 264) (v := gI S 264 v0) B 4 8 rfl (by decide) rfl (by decide) rfl rfl (fun w h => in_of (uw_4 w h)) (in_of qfRX3_15) dX3_keep_6 h1 rfl ?_
  refine k_iast (g := rI S x1) (S' := sRI S x1 (va_up (rI S x1) (0 : Int32).toNatClampNeg (gI S 264 v0))) B dX3_keep_9 h3 h4 rfl rfl ?_
  refine k_aload_n B 0 rfl rfl dX3_keep_10 ?_
  refine k_getP (f := 269) (r := gP S 269 v0) B 4 13 rfl (by decide) rfl (by decide) rfl rfl (fun w h => in_of (uw_4 w h)) (in_of qfRX3_31) dX3_keep_11 h1 rfl ?_
  rw [h5]; change K _ _ _ _ _ _ _ _ _ _ _ _ _ _ _ _ _ _ (.ref x2 :: _)
  refine k_iconst (v := 1) B (by decide) dX3_keep_14 ?_
  refine k_aload_n B 0 rfl rfl dX3_keep_15 ?_
  refine k_getI (f := 265) (v := gI S 265 v0) B 4 9 rfl (by decide) rfl (by decide) rfl rfl (fun w h => in_of (uw_4 w h)) (in_of qfRX3_19) dX3_keep_16 h1 rfl ?_
  refine k_iast (g := rI (sRI S x1 (va_up (rI S x1) (0 : Int32).toNatClampNeg (gI S 264 v0))) x2) (S' := sRI (sRI S x1 (va_up (rI S x1) (0 : Int32).toNatClampNeg (gI S 264 v0))) x2 (va_up (rI (sRI S x1 (va_up (rI S x1) (0 : Int32).toNatClampNeg (gI S 264 v0))) x2) (1 : Int32).toNatClampNeg (gI S 265 v0))) B dX3_keep_19 h6 h7 rfl rfl ?_
  refine k_aload_n B 0 rfl rfl dX3_keep_20 ?_
  refine k_getP (f := 269) (r := gP S 269 v0) B 4 13 rfl (by decide) rfl (by decide) rfl rfl (fun w h => in_of (uw_4 w h)) (in_of qfRX3_31) dX3_keep_21 h1 rfl ?_
  rw [h8]; change K _ _ _ _ _ _ _ _ _ _ _ _ _ _ _ _ _ _ (.ref x3 :: _)
  refine k_iconst (v := 2) B (by decide) dX3_keep_24 ?_
  refine k_aload_n B 0 rfl rfl dX3_keep_25 ?_
  refine k_getI (f := 266) (v := gI S 266 v0) B 4 10 rfl (by decide) rfl (by decide) rfl rfl (fun w h => in_of (uw_4 w h)) (in_of qfRX3_22) dX3_keep_26 h1 rfl ?_
  refine k_iast (g := rI (sRI (sRI S x1 (va_up (rI S x1) (0 : Int32).toNatClampNeg (gI S 264 v0))) x2 (va_up (rI (sRI S x1 (va_up (rI S x1) (0 : Int32).toNatClampNeg (gI S 264 v0))) x2) (1 : Int32).toNatClampNeg (gI S 265 v0))) x3) (S' := sRI (sRI (sRI S x1 (va_up (rI S x1) (0 : Int32).toNatClampNeg (gI S 264 v0))) x2 (va_up (rI (sRI S x1 (va_up (rI S x1) (0 : Int32).toNatClampNeg (gI S 264 v0))) x2) (1 : Int32).toNatClampNeg (gI S 265 v0))) x3 (va_up (rI (sRI (sRI S x1 (va_up (rI S x1) (0 : Int32).toNatClampNeg (gI S 264 v0))) x2 (va_up (rI (sRI S x1 (va_up (rI S x1) (0 : Int32).toNatClampNeg (gI S 264 v0))) x2) (1 : Int32).toNatClampNeg (gI S 265 v0))) x3) (2 : Int32).toNatClampNeg (gI S 266 v0))) B dX3_keep_29 h9 h10 rfl rfl ?_
  refine k_aload_n B 0 rfl rfl dX3_keep_30 ?_
  refine k_getP (f := 269) (r := gP S 269 v0) B 4 13 rfl (by decide) rfl (by decide) rfl rfl (fun w h => in_of (uw_4 w h)) (in_of qfRX3_31) dX3_keep_31 h1 rfl ?_
  rw [h11]; change K _ _ _ _ _ _ _ _ _ _ _ _ _ _ _ _ _ _ (.ref x4 :: _)
  refine k_iconst (v := 3) B (by decide) dX3_keep_34 ?_
  refine k_aload_n B 0 rfl rfl dX3_keep_35 ?_
  refine k_getI (f := 267) (v := gI S 267 v0) B 4 11 rfl (by decide) rfl (by decide) rfl rfl (fun w h => in_of (uw_4 w h)) (in_of qfRX3_25) dX3_keep_36 h1 rfl ?_
  refine k_iast (g := rI (sRI (sRI (sRI S x1 (va_up (rI S x1) (0 : Int32).toNatClampNeg (gI S 264 v0))) x2 (va_up (rI (sRI S x1 (va_up (rI S x1) (0 : Int32).toNatClampNeg (gI S 264 v0))) x2) (1 : Int32).toNatClampNeg (gI S 265 v0))) x3 (va_up (rI (sRI (sRI S x1 (va_up (rI S x1) (0 : Int32).toNatClampNeg (gI S 264 v0))) x2 (va_up (rI (sRI S x1 (va_up (rI S x1) (0 : Int32).toNatClampNeg (gI S 264 v0))) x2) (1 : Int32).toNatClampNeg (gI S 265 v0))) x3) (2 : Int32).toNatClampNeg (gI S 266 v0))) x4) (S' := sRI (sRI (sRI (sRI S x1 (va_up (rI S x1) (0 : Int32).toNatClampNeg (gI S 264 v0))) x2 (va_up (rI (sRI S x1 (va_up (rI S x1) (0 : Int32).toNatClampNeg (gI S 264 v0))) x2) (1 : Int32).toNatClampNeg (gI S 265 v0))) x3 (va_up (rI (sRI (sRI S x1 (va_up (rI S x1) (0 : Int32).toNatClampNeg (gI S 264 v0))) x2 (va_up (rI (sRI S x1 (va_up (rI S x1) (0 : Int32).toNatClampNeg (gI S 264 v0))) x2) (1 : Int32).toNatClampNeg (gI S 265 v0))) x3) (2 : Int32).toNatClampNeg (gI S 266 v0))) x4 (va_up (rI (sRI (sRI (sRI S x1 (va_up (rI S x1) (0 : Int32).toNatClampNeg (gI S 264 v0))) x2 (va_up (rI (sRI S x1 (va_up (rI S x1) (0 : Int32).toNatClampNeg (gI S 264 v0))) x2) (1 : Int32).toNatClampNeg (gI S 265 v0))) x3 (va_up (rI (sRI (sRI S x1 (va_up (rI S x1) (0 : Int32).toNatClampNeg (gI S 264 v0))) x2 (va_up (rI (sRI S x1 (va_up (rI S x1) (0 : Int32).toNatClampNeg (gI S 264 v0))) x2) (1 : Int32).toNatClampNeg (gI S 265 v0))) x3) (2 : Int32).toNatClampNeg (gI S 266 v0))) x4) (3 : Int32).toNatClampNeg (gI S 267 v0))) B dX3_keep_39 h12 h13 rfl rfl ?_
  refine k_aload_n B 0 rfl rfl dX3_keep_40 ?_
  refine k_getP (f := 269) (r := gP S 269 v0) B 4 13 rfl (by decide) rfl (by decide) rfl rfl (fun w h => in_of (uw_4 w h)) (in_of qfRX3_31) dX3_keep_41 h1 rfl ?_
  rw [h14]; change K _ _ _ _ _ _ _ _ _ _ _ _ _ _ _ _ _ _ (.ref x5 :: _)
  refine k_iconst (v := 4) B (by decide) dX3_keep_44 ?_
  refine k_aload_n B 0 rfl rfl dX3_keep_45 ?_
  refine k_getI (f := 268) (v := gI S 268 v0) B 4 12 rfl (by decide) rfl (by decide) rfl rfl (fun w h => in_of (uw_4 w h)) (in_of qfRX3_28) dX3_keep_46 h1 rfl ?_
  refine k_iast (g := rI (sRI (sRI (sRI (sRI S x1 (va_up (rI S x1) (0 : Int32).toNatClampNeg (gI S 264 v0))) x2 (va_up (rI (sRI S x1 (va_up (rI S x1) (0 : Int32).toNatClampNeg (gI S 264 v0))) x2) (1 : Int32).toNatClampNeg (gI S 265 v0))) x3 (va_up (rI (sRI (sRI S x1 (va_up (rI S x1) (0 : Int32).toNatClampNeg (gI S 264 v0))) x2 (va_up (rI (sRI S x1 (va_up (rI S x1) (0 : Int32).toNatClampNeg (gI S 264 v0))) x2) (1 : Int32).toNatClampNeg (gI S 265 v0))) x3) (2 : Int32).toNatClampNeg (gI S 266 v0))) x4 (va_up (rI (sRI (sRI (sRI S x1 (va_up (rI S x1) (0 : Int32).toNatClampNeg (gI S 264 v0))) x2 (va_up (rI (sRI S x1 (va_up (rI S x1) (0 : Int32).toNatClampNeg (gI S 264 v0))) x2) (1 : Int32).toNatClampNeg (gI S 265 v0))) x3 (va_up (rI (sRI (sRI S x1 (va_up (rI S x1) (0 : Int32).toNatClampNeg (gI S 264 v0))) x2 (va_up (rI (sRI S x1 (va_up (rI S x1) (0 : Int32).toNatClampNeg (gI S 264 v0))) x2) (1 : Int32).toNatClampNeg (gI S 265 v0))) x3) (2 : Int32).toNatClampNeg (gI S 266 v0))) x4) (3 : Int32).toNatClampNeg (gI S 267 v0))) x5) (S' := sRI (sRI (sRI (sRI (sRI S x1 (va_up (rI S x1) (0 : Int32).toNatClampNeg (gI S 264 v0))) x2 (va_up (rI (sRI S x1 (va_up (rI S x1) (0 : Int32).toNatClampNeg (gI S 264 v0))) x2) (1 : Int32).toNatClampNeg (gI S 265 v0))) x3 (va_up (rI (sRI (sRI S x1 (va_up (rI S x1) (0 : Int32).toNatClampNeg (gI S 264 v0))) x2 (va_up (rI (sRI S x1 (va_up (rI S x1) (0 : Int32).toNatClampNeg (gI S 264 v0))) x2) (1 : Int32).toNatClampNeg (gI S 265 v0))) x3) (2 : Int32).toNatClampNeg (gI S 266 v0))) x4 (va_up (rI (sRI (sRI (sRI S x1 (va_up (rI S x1) (0 : Int32).toNatClampNeg (gI S 264 v0))) x2 (va_up (rI (sRI S x1 (va_up (rI S x1) (0 : Int32).toNatClampNeg (gI S 264 v0))) x2) (1 : Int32).toNatClampNeg (gI S 265 v0))) x3 (va_up (rI (sRI (sRI S x1 (va_up (rI S x1) (0 : Int32).toNatClampNeg (gI S 264 v0))) x2 (va_up (rI (sRI S x1 (va_up (rI S x1) (0 : Int32).toNatClampNeg (gI S 264 v0))) x2) (1 : Int32).toNatClampNeg (gI S 265 v0))) x3) (2 : Int32).toNatClampNeg (gI S 266 v0))) x4) (3 : Int32).toNatClampNeg (gI S 267 v0))) x5 (va_up (rI (sRI (sRI (sRI (sRI S x1 (va_up (rI S x1) (0 : Int32).toNatClampNeg (gI S 264 v0))) x2 (va_up (rI (sRI S x1 (va_up (rI S x1) (0 : Int32).toNatClampNeg (gI S 264 v0))) x2) (1 : Int32).toNatClampNeg (gI S 265 v0))) x3 (va_up (rI (sRI (sRI S x1 (va_up (rI S x1) (0 : Int32).toNatClampNeg (gI S 264 v0))) x2 (va_up (rI (sRI S x1 (va_up (rI S x1) (0 : Int32).toNatClampNeg (gI S 264 v0))) x2) (1 : Int32).toNatClampNeg (gI S 265 v0))) x3) (2 : Int32).toNatClampNeg (gI S 266 v0))) x4 (va_up (rI (sRI (sRI (sRI S x1 (va_up (rI S x1) (0 : Int32).toNatClampNeg (gI S 264 v0))) x2 (va_up (rI (sRI S x1 (va_up (rI S x1) (0 : Int32).toNatClampNeg (gI S 264 v0))) x2) (1 : Int32).toNatClampNeg (gI S 265 v0))) x3 (va_up (rI (sRI (sRI S x1 (va_up (rI S x1) (0 : Int32).toNatClampNeg (gI S 264 v0))) x2 (va_up (rI (sRI S x1 (va_up (rI S x1) (0 : Int32).toNatClampNeg (gI S 264 v0))) x2) (1 : Int32).toNatClampNeg (gI S 265 v0))) x3) (2 : Int32).toNatClampNeg (gI S 266 v0))) x4) (3 : Int32).toNatClampNeg (gI S 267 v0))) x5) (4 : Int32).toNatClampNeg (gI S 268 v0))) B dX3_keep_49 h15 h16 rfl rfl ?_
  exact ret_V B rfl dX3_keep_50 (hq)
theorem bX3_giveBack_0 (B : Bd p s m args meth c cX3_giveBack 1 (wsOf yX3_giveBack cX3_giveBack 1 none) RX3 w none "giveBack") {v0 : Nat} {x1 : Nat} {x2 : Nat} {x3 : Nat} {x4 : Nat} {x5 : Nat} {post : St → Prop} (h1 : kd S v0 = 5) (h2 : gP S 269 v0 = some x1) (h3 : kd S x1 = 21) (h4 : vp_in 0 (ln S x1)) (h5 : gP S 269 v0 = some x2) (h6 : kd S x2 = 21) (h7 : vp_in 1 (ln S x2)) (h8 : gP S 269 v0 = some x3) (h9 : kd S x3 = 21) (h10 : vp_in 2 (ln S x3)) (h11 : gP S 269 v0 = some x4) (h12 : kd S x4 = 21) (h13 : vp_in 3 (ln S x4)) (h14 : gP S 269 v0 = some x5) (h15 : kd S x5 = 21) (h16 : vp_in 4 (ln S x5)) (hq : post (sI (sI (sI (sI (sI S 264 v0 ((rI S x1) (0 : Int32).toNatClampNeg)) 265 v0 ((rI S x2) (1 : Int32).toNatClampNeg)) 266 v0 ((rI S x3) (2 : Int32).toNatClampNeg)) 267 v0 ((rI S x4) (3 : Int32).toNatClampNeg)) 268 v0 ((rI S x5) (4 : Int32).toNatClampNeg))) : K p l e rX3_giveBack s m args below meth c 1 w 0 0 (MQ below (va_Qv post (fun S' t => Hd w S' t.heap) (wA w)) args s 0 0 (wA w)) S 0 [(0, .ref v0)] [] := by
  refine k_aload_n B 0 rfl rfl dX3_giveBack_0 ?_
  refine k_aload_n B 0 rfl rfl dX3_giveBack_1 ?_
  refine k_getP (f := 269) (r := gP S 269 v0) B 4 13 rfl (by decide) rfl (by decide) rfl rfl (fun w h => in_of (uw_4 w h)) (in_of qfRX3_31) dX3_giveBack_2 h1 rfl ?_
  rw [h2]; change K _ _ _ _ _ _ _ _ _ _ _ _ _ _ _ _ _ _ (.ref x1 :: _)
  refine k_iconst (v := 0) B (by decide) dX3_giveBack_5 ?_
  refine k_iald (v := (rI S x1) (0 : Int32).toNatClampNeg) B dX3_giveBack_6 h3 h4 rfl ?_
  refine k_putI (f := 264) B 4 8 rfl (by decide) rfl (by decide) rfl rfl (fun w h => in_of (uw_4 w h)) (in_of qfRX3_15) tyX3 tyX3_ok nmX3 rfl (tyX3_ok 8 (by decide)) dX3_giveBack_7 h1 ?_
  refine k_aload_n B 0 rfl rfl dX3_giveBack_10 ?_
  refine k_aload_n B 0 rfl rfl dX3_giveBack_11 ?_
  refine k_getP (f := 269) (r := gP S 269 v0) B 4 13 rfl (by decide) rfl (by decide) rfl rfl (fun w h => in_of (uw_4 w h)) (in_of qfRX3_31) dX3_giveBack_12 h1 rfl ?_
  rw [h5]; change K _ _ _ _ _ _ _ _ _ _ _ _ _ _ _ _ _ _ (.ref x2 :: _)
  refine k_iconst (v := 1) B (by decide) dX3_giveBack_15 ?_
  refine k_iald (v := (rI S x2) (1 : Int32).toNatClampNeg) B dX3_giveBack_16 h6 h7 rfl ?_
  refine k_putI (f := 265) B 4 9 rfl (by decide) rfl (by decide) rfl rfl (fun w h => in_of (uw_4 w h)) (in_of qfRX3_19) tyX3 tyX3_ok nmX3 rfl (tyX3_ok 9 (by decide)) dX3_giveBack_17 h1 ?_
  refine k_aload_n B 0 rfl rfl dX3_giveBack_20 ?_
  refine k_aload_n B 0 rfl rfl dX3_giveBack_21 ?_
  refine k_getP (f := 269) (r := gP S 269 v0) B 4 13 rfl (by decide) rfl (by decide) rfl rfl (fun w h => in_of (uw_4 w h)) (in_of qfRX3_31) dX3_giveBack_22 h1 rfl ?_
  rw [h8]; change K _ _ _ _ _ _ _ _ _ _ _ _ _ _ _ _ _ _ (.ref x3 :: _)
  refine k_iconst (v := 2) B (by decide) dX3_giveBack_25 ?_
  refine k_iald (v := (rI S x3) (2 : Int32).toNatClampNeg) B dX3_giveBack_26 h9 h10 rfl ?_
  refine k_putI (f := 266) B 4 10 rfl (by decide) rfl (by decide) rfl rfl (fun w h => in_of (uw_4 w h)) (in_of qfRX3_22) tyX3 tyX3_ok nmX3 rfl (tyX3_ok 10 (by decide)) dX3_giveBack_27 h1 ?_
  refine k_aload_n B 0 rfl rfl dX3_giveBack_30 ?_
  refine k_aload_n B 0 rfl rfl dX3_giveBack_31 ?_
  refine k_getP (f := 269) (r := gP S 269 v0) B 4 13 rfl (by decide) rfl (by decide) rfl rfl (fun w h => in_of (uw_4 w h)) (in_of qfRX3_31) dX3_giveBack_32 h1 rfl ?_
  rw [h11]; change K _ _ _ _ _ _ _ _ _ _ _ _ _ _ _ _ _ _ (.ref x4 :: _)
  refine k_iconst (v := 3) B (by decide) dX3_giveBack_35 ?_
  refine k_iald (v := (rI S x4) (3 : Int32).toNatClampNeg) B dX3_giveBack_36 h12 h13 rfl ?_
  refine k_putI (f := 267) B 4 11 rfl (by decide) rfl (by decide) rfl rfl (fun w h => in_of (uw_4 w h)) (in_of qfRX3_25) tyX3 tyX3_ok nmX3 rfl (tyX3_ok 11 (by decide)) dX3_giveBack_37 h1 ?_
  refine k_aload_n B 0 rfl rfl dX3_giveBack_40 ?_
  refine k_aload_n B 0 rfl rfl dX3_giveBack_41 ?_
  refine k_getP (f := 269) (r := gP S 269 v0) B 4 13 rfl (by decide) rfl (by decide) rfl rfl (fun w h => in_of (uw_4 w h)) (in_of qfRX3_31) dX3_giveBack_42 h1 rfl ?_
  rw [h14]; change K _ _ _ _ _ _ _ _ _ _ _ _ _ _ _ _ _ _ (.ref x5 :: _)
  refine k_iconst (v := 4) B (by decide) dX3_giveBack_45 ?_
  refine k_iald (v := (rI S x5) (4 : Int32).toNatClampNeg) B dX3_giveBack_46 h15 h16 rfl ?_
  refine k_putI (f := 268) B 4 12 rfl (by decide) rfl (by decide) rfl rfl (fun w h => in_of (uw_4 w h)) (in_of qfRX3_28) tyX3 tyX3_ok nmX3 rfl (tyX3_ok 12 (by decide)) dX3_giveBack_47 h1 ?_
  exact ret_V B rfl dX3_giveBack_50 (hq)
theorem bX4_init_0 (B : Bd p s m args meth c cX4_init 3 (wsOf yX4_init cX4_init 3 none) RX4 w none "<init>") {v0 : Nat} {v1 : Int32} {v2 : Int32} {post : St → Prop} (h1 : kd S v0 = 6) (hq : post (sI (sI S 320 v0 v1) 321 v0 v2)) : K p l e rX4_init s m args below meth c 3 w 0 0 (MQ below (va_Qv post (fun S' t => Hd w S' t.heap) (wA w)) args s 0 0 (wA w)) S 0 [(0, .ref v0), (1, .int v1), (2, .int v2)] [] := by
  refine k_aload_n B 0 rfl rfl dX4_init_0 ?_
  refine k_objInit B (in_of qlRX4_1) (in_of qi_obj) (in_of qc_obj) (Nat.le_of_ble_eq_true rfl) (Nat.le_of_ble_eq_true rfl) dX4_init_1 ?_
  refine k_aload_n B 0 rfl rfl dX4_init_4 ?_
  refine k_iload_n B 1 rfl rfl dX4_init_5 ?_
  refine k_putIF (f := 320) B 5 0 rfl (by decide) rfl (by decide) rfl rfl (fun w h => in_of (uw_5 w h)) (in_of qfRX4_7) tyX4 tyX4_ok nmX4 rfl rfl rfl (tyX4_ok 0 (by decide)) dX4_init_6 h1 ?_
  refine k_aload_n B 0 rfl rfl dX4_init_9 ?_
  refine k_iload_n B 2 rfl rfl dX4_init_10 ?_
  refine k_putIF (f := 321) B 5 1 rfl (by decide) rfl (by decide) rfl rfl (fun w h => in_of (uw_5 w h)) (in_of qfRX4_13) tyX4 tyX4_ok nmX4 rfl rfl rfl (tyX4_ok 1 (by decide)) dX4_init_11 h1 ?_
  exact ret_V B rfl dX4_init_14 (hq)
theorem bX4_distanceTo_0 (B : Bd p s m args meth c cX4_distanceTo 4 (wsOf yX4_distanceTo cX4_distanceTo 4 (some .int)) RX4 w (some .int) "distanceTo") {v0 : Nat} {v1 : Nat} {Q : State → Prop} (h1 : kd S v0 = 6) (h2 : kd S v1 = 6) (kt : 0 ≤ ((gI S 320 v0) - (gI S 320 v1)) → K p l e rX4_distanceTo s m args below meth c 4 w 0 0 Q S 29 [(2, .int ((gI S 320 v0) - (gI S 320 v1))), (3, .int ((gI S 321 v0) - (gI S 321 v1)))] []) (kf : ¬ 0 ≤ ((gI S 320 v0) - (gI S 320 v1)) → K p l e rX4_distanceTo s m args below meth c 4 w 0 0 Q S 24 [(2, .int ((gI S 320 v0) - (gI S 320 v1))), (3, .int ((gI S 321 v0) - (gI S 321 v1)))] []) : K p l e rX4_distanceTo s m args below meth c 4 w 0 0 Q S 0 [(0, .ref v0), (1, .ref v1)] [] := by
  refine k_aload_n B 0 rfl rfl dX4_distanceTo_0 ?_
  refine k_getI (f := 320) (v := gI S 320 v0) B 5 0 rfl (by decide) rfl (by decide) rfl rfl (fun w h => in_of (uw_5 w h)) (in_of qfRX4_7) dX4_distanceTo_1 h1 rfl ?_
  refine k_aload_n B 1 rfl rfl dX4_distanceTo_4 ?_
  refine k_getI (f := 320) (v := gI S 320 v1) B 5 0 rfl (by decide) rfl (by decide) rfl rfl (fun w h => in_of (uw_5 w h)) (in_of qfRX4_7) dX4_distanceTo_5 h2 rfl ?_
  refine k_isub B dX4_distanceTo_8 ?_
  refine k_istore_n (lst' := [(2, .int ((gI S 320 v0) - (gI S 320 v1))), (0, .ref v0), (1, .ref v1)]) B rfl (by decide) rfl dX4_distanceTo_9 ?_
  refine k_aload_n B 1 rfl rfl dX4_distanceTo_10 ?_
  refine k_getI (f := 321) (v := gI S 321 v0) B 5 1 rfl (by decide) rfl (by decide) rfl rfl (fun w h => in_of (uw_5 w h)) (in_of qfRX4_13) dX4_distanceTo_11 h1 rfl ?_
  refine k_aload_n B 2 rfl rfl dX4_distanceTo_14 ?_
  refine k_getI (f := 321) (v := gI S 321 v1) B 5 1 rfl (by decide) rfl (by decide) rfl rfl (fun w h => in_of (uw_5 w h)) (in_of qfRX4_13) dX4_distanceTo_15 h2 rfl ?_
  refine k_isub B dX4_distanceTo_18 ?_
  refine k_istore_n (lst' := [(3, .int ((gI S 321 v0) - (gI S 321 v1))), (2, .int ((gI S 320 v0) - (gI S 320 v1))), (0, .ref v0), (1, .ref v1)]) B rfl (by decide) rfl dX4_distanceTo_19 ?_
  refine k_iload_n B 1 rfl rfl dX4_distanceTo_20 ?_
  refine k_if_ge (tgt := 29) B dX4_distanceTo_21 (by decide) (fun c => ?_) (fun c => ?_)
  · refine k_sub [1, 0] rfl ?_
    exact kt c
  · refine k_sub [1, 0] rfl ?_
    exact kf c
theorem bX4_distanceTo_24 (B : Bd p s m args meth c cX4_distanceTo 4 (wsOf yX4_distanceTo cX4_distanceTo 4 (some .int)) RX4 w (some .int) "distanceTo") {v2 : Int32} {v3 : Int32} {Q : State → Prop}  (kk : K p l e rX4_distanceTo s m args below meth c 4 w 0 0 Q S 30 [(3, .int v3)] [.int (-v2)]) : K p l e rX4_distanceTo s m args below meth c 4 w 0 0 Q S 24 [(2, .int v2), (3, .int v3)] [] := by
  refine k_iload_n B 0 rfl rfl dX4_distanceTo_24 ?_
  refine k_ineg B dX4_distanceTo_25 ?_
  refine k_goto (tgt := 30) B dX4_distanceTo_26 (by decide) ?_
  refine k_sub [1] rfl ?_
  exact kk
theorem bX4_distanceTo_29 (B : Bd p s m args meth c cX4_distanceTo 4 (wsOf yX4_distanceTo cX4_distanceTo 4 (some .int)) RX4 w (some .int) "distanceTo") {v2 : Int32} {v3 : Int32} {Q : State → Prop}  (kk : K p l e rX4_distanceTo s m args below meth c 4 w 0 0 Q S 30 [(3, .int v3)] [.int v2]) : K p l e rX4_distanceTo s m args below meth c 4 w 0 0 Q S 29 [(2, .int v2), (3, .int v3)] [] := by
  refine k_iload_n B 0 rfl rfl dX4_distanceTo_29 ?_
  refine k_sub [1] rfl ?_
  exact kk
theorem bX4_distanceTo_30 (B : Bd p s m args meth c cX4_distanceTo 4 (wsOf yX4_distanceTo cX4_distanceTo 4 (some .int)) RX4 w (some .int) "distanceTo") {v3 : Int32} {t0 : Int32} {Q : State → Prop}  (kt : 0 ≤ v3 → K p l e rX4_distanceTo s m args below meth c 4 w 0 0 Q S 39 [(3, .int v3)] [.int t0]) (kf : ¬ 0 ≤ v3 → K p l e rX4_distanceTo s m args below meth c 4 w 0 0 Q S 34 [(3, .int v3)] [.int t0]) : K p l e rX4_distanceTo s m args below meth c 4 w 0 0 Q S 30 [(3, .int v3)] [.int t0] := by
  refine k_iload_n B 0 rfl rfl dX4_distanceTo_30 ?_
  refine k_if_ge (tgt := 39) B dX4_distanceTo_31 (by decide) (fun c => ?_) (fun c => ?_)
  · exact kt c
  · exact kf c
theorem bX4_distanceTo_34 (B : Bd p s m args meth c cX4_distanceTo 4 (wsOf yX4_distanceTo cX4_distanceTo 4 (some .int)) RX4 w (some .int) "distanceTo") {v3 : Int32} {t0 : Int32} {Q : State → Prop}  (kk : K p l e rX4_distanceTo s m args below meth c 4 w 0 0 Q S 40 [] [.int (-v3), .int t0]) : K p l e rX4_distanceTo s m args below meth c 4 w 0 0 Q S 34 [(3, .int v3)] [.int t0] := by
  refine k_iload_n B 0 rfl rfl dX4_distanceTo_34 ?_
  refine k_ineg B dX4_distanceTo_35 ?_
  refine k_goto (tgt := 40) B dX4_distanceTo_36 (by decide) ?_
  refine k_sub [] rfl ?_
  exact kk
theorem bX4_distanceTo_39 (B : Bd p s m args meth c cX4_distanceTo 4 (wsOf yX4_distanceTo cX4_distanceTo 4 (some .int)) RX4 w (some .int) "distanceTo") {v3 : Int32} {t0 : Int32} {Q : State → Prop}  (kk : K p l e rX4_distanceTo s m args below meth c 4 w 0 0 Q S 40 [] [.int v3, .int t0]) : K p l e rX4_distanceTo s m args below meth c 4 w 0 0 Q S 39 [(3, .int v3)] [.int t0] := by
  refine k_iload_n B 0 rfl rfl dX4_distanceTo_39 ?_
  refine k_sub [] rfl ?_
  exact kk
theorem bX4_distanceTo_40 (B : Bd p s m args meth c cX4_distanceTo 4 (wsOf yX4_distanceTo cX4_distanceTo 4 (some .int)) RX4 w (some .int) "distanceTo") {t0 : Int32} {t1 : Int32} {post : Int32 → St → Prop}  (hq : post (t0 + t1) S) : K p l e rX4_distanceTo s m args below meth c 4 w 0 0 (MQ below (va_Qi post (fun S' t => Hd w S' t.heap) (wA w)) args s 0 0 (wA w)) S 40 [] [.int t1, .int t0] := by
  refine k_iadd B dX4_distanceTo_40 ?_
  exact ret_I B rfl dX4_distanceTo_41 (hq)
theorem bX6_init_0 (B : Bd p s m args meth c cX6_init 1 (wsOf yX6_init cX6_init 1 none) RX6 w none "<init>") {v0 : Nat} {k n : Nat} {Q : State → Prop} (h1 : k + 1 ≤ rX6_init.cells) (h2 : n + 13 ≤ rX6_init.slots) (kk : ∀ q7 : Nat, kd S q7 = 0 → K p l e rX6_init s m args below meth c 1 w (k + 1) (n + 13) Q (nw S q7 22 13) 10 [(0, .ref v0)] [.ref q7, .ref v0]) : K p l e rX6_init s m args below meth c 1 w k n Q S 0 [(0, .ref v0)] [] := by
  refine k_aload_n B 0 rfl rfl dX6_init_0 ?_
  refine k_objInit B (in_of qlRX6_3) (in_of qi_obj) (in_of qc_obj) (Nat.le_of_ble_eq_true rfl) (Nat.le_of_ble_eq_true rfl) dX6_init_1 ?_
  refine k_aload_n B 0 rfl rfl dX6_init_4 ?_
  refine k_bipush (v := 13) B (by decide) dX6_init_5 ?_
  refine k_newP (N' := 13) B (in_of qkRX6_9) (by decide) (by decide) (by decide) h1 h2 dX6_init_7 (fun q7 f7 => ?_)
  exact kk q7 f7
theorem bX6_init_10 (B : Bd p s m args meth c cX6_init 1 (wsOf yX6_init cX6_init 1 none) RX6 w none "<init>") {v0 : Nat} {t0 : Nat} {t1 : Nat} {post : St → Prop} {k n : Nat} (h1 : kd S t0 = 8) (h2 : kd S v0 = 8) (hq : post (sI (sP S 448 t0 (some t1)) 449 v0 0)) : K p l e rX6_init s m args below meth c 1 w k n (MQ below (va_Qv post (fun S' t => Hd w S' t.heap) (wA w)) args s k n (wA w)) S 10 [(0, .ref v0)] [.ref t1, .ref t0] := by
  refine k_putPF (f := 448) (v := some t1) B 7 0 rfl (by decide) rfl (by decide) rfl rfl (fun w h => in_of (uw_7 w h)) (in_of qfRX6_11) tyX6 tyX6_ok nmX6 rfl rfl rfl (tyX6_ok 0 (by decide)) rfl rfl dX6_init_10 h1 ?_
  refine k_aload_n B 0 rfl rfl dX6_init_13 ?_
  refine k_iconst (v := 0) B (by decide) dX6_init_14 ?_
  refine k_putI (f := 449) B 7 1 rfl (by decide) rfl (by decide) rfl rfl (fun w h => in_of (uw_7 w h)) (in_of qfRX6_17) tyX6 tyX6_ok nmX6 rfl (tyX6_ok 1 (by decide)) dX6_init_15 h2 ?_
  exact ret_V B rfl dX6_init_18 (hq)
theorem bX6_at_0 (B : Bd p s m args meth c cX6_at 2 (wsOf yX6_at cX6_at 2 (some (.object "LastMile$Parcel"))) RX6 w (some (.object "LastMile$Parcel")) "at") {v0 : Nat} {v1 : Int32} {x1 : Nat} {x2 : Nat} {post : Nat → St → Prop} (h1 : kd S v0 = 8) (h2 : gP S 448 v0 = some x1) (h3 : kd S x1 = 22) (h4 : vp_in v1 (ln S x1)) (h5 : (rP S x1) v1.toNatClampNeg = some x2) (hq : post x2 S) : K p l e rX6_at s m args below meth c 2 w 0 0 (MQ below (va_Qr (fun _ : St => True) (fun S' a t => Hd w S' t.heap ∧ post a S') (wA w)) args s 0 0 (wA w)) S 0 [(0, .ref v0), (1, .int v1)] [] := by
  refine k_aload_n B 0 rfl rfl dX6_at_0 ?_
  refine k_getP (f := 448) (r := gP S 448 v0) B 7 0 rfl (by decide) rfl (by decide) rfl rfl (fun w h => in_of (uw_7 w h)) (in_of qfRX6_11) dX6_at_1 h1 rfl ?_
  rw [h2]; change K _ _ _ _ _ _ _ _ _ _ _ _ _ _ _ _ _ _ (.ref x1 :: _)
  refine k_iload_n B 1 rfl rfl dX6_at_4 ?_
  refine k_aald (v := (rP S x1) v1.toNatClampNeg) B dX6_at_5 h3 h4 rfl ?_
  rw [h5]; change K _ _ _ _ _ _ _ _ _ _ _ _ _ _ _ _ _ _ (.ref x2 :: _)
  exact ret_R B rfl (Or.inl ⟨_, rfl⟩) dX6_at_6 (hq)
theorem bX6_copy_0 (B : Bd p s m args meth c cX6_copy 3 (wsOf yX6_copy cX6_copy 3 none) RX6 w none "copy") {v0 : Nat} {v1 : Nat} {Q : State → Prop} (h1 : kd S v1 = 8) (h2 : kd S v0 = 8) (kk : K p l e rX6_copy s m args below meth c 3 w 0 0 Q (sI S 449 v0 (gI S 449 v1)) 10 [(0, .ref v0), (1, .ref v1), (2, .int 0)] []) : K p l e rX6_copy s m args below meth c 3 w 0 0 Q S 0 [(0, .ref v0), (1, .ref v1)] [] := by
  refine k_aload_n B 0 rfl rfl dX6_copy_0 ?_
  refine k_aload_n B 1 rfl rfl dX6_copy_1 ?_
  refine k_getI (f := 449) (v := gI S 449 v1) B 7 1 rfl (by decide) rfl (by decide) rfl rfl (fun w h => in_of (uw_7 w h)) (in_of qfRX6_17) dX6_copy_2 h1 rfl ?_
  refine k_putI (f := 449) B 7 1 rfl (by decide) rfl (by decide) rfl rfl (fun w h => in_of (uw_7 w h)) (in_of qfRX6_17) tyX6 tyX6_ok nmX6 rfl (tyX6_ok 1 (by decide)) dX6_copy_5 h2 ?_
  refine k_iconst (v := 0) B (by decide) dX6_copy_8 ?_
  refine k_istore_n (lst' := [(2, .int 0), (0, .ref v0), (1, .ref v1)]) B rfl (by decide) rfl dX6_copy_9 ?_
  refine k_sub [1, 2, 0] rfl ?_
  exact kk
theorem bX6_copy_10 (B : Bd p s m args meth c cX6_copy 3 (wsOf yX6_copy cX6_copy 3 none) RX6 w none "copy") {v0 : Nat} {v1 : Nat} {v2 : Int32} {Q : State → Prop} (h1 : kd S v0 = 8) (kt : (gI S 449 v0) ≤ v2 → K p l e rX6_copy s m args below meth c 3 w 0 0 Q S 36 [] []) (kf : ¬ (gI S 449 v0) ≤ v2 → K p l e rX6_copy s m args below meth c 3 w 0 0 Q S 18 [(0, .ref v0), (1, .ref v1), (2, .int v2)] []) : K p l e rX6_copy s m args below meth c 3 w 0 0 Q S 10 [(0, .ref v0), (1, .ref v1), (2, .int v2)] [] := by
  refine k_iload_n B 2 rfl rfl dX6_copy_10 ?_
  refine k_aload_n B 0 rfl rfl dX6_copy_11 ?_
  refine k_getI (f := 449) (v := gI S 449 v0) B 7 1 rfl (by decide) rfl (by decide) rfl rfl (fun w h => in_of (uw_7 w h)) (in_of qfRX6_17) dX6_copy_12 h1 rfl ?_
  refine k_icmp_ge (tgt := 36) B dX6_copy_15 (by decide) (fun c => ?_) (fun c => ?_)
  · refine k_sub [] rfl ?_
    exact kt c
  · exact kf c
theorem bX6_copy_18 (B : Bd p s m args meth c cX6_copy 3 (wsOf yX6_copy cX6_copy 3 none) RX6 w none "copy") {v0 : Nat} {v1 : Nat} {v2 : Int32} {x1 : Nat} {x2 : Nat} {x3 : Nat} {Q : State → Prop} (h1 : kd S v0 = 8) (h2 : gP S 448 v0 = some x1) (h3 : kd S v1 = 8) (h4 : gP S 448 v1 = some x2) (h5 : kd S x2 = 22) (h6 : vp_in v2 (ln S x2)) (h7 : (rP S x2) v2.toNatClampNeg = some x3) (h8 : kd S x1 = 22) (h9 : kd S x3 = 5) (h10 : vp_in v2 (ln S x1)) (kk : K p l e rX6_copy s m args below meth c 3 w 0 0 Q (sRP S x1 (va_up (rP S x1) v2.toNatClampNeg (some x3))) 10 [(0, .ref v0), (1, .ref v1), (2, .int (v2 + 1))] []) : K p l e rX6_copy s m args below meth c 3 w 0 0 Q S 18 [(0, .ref v0), (1, .ref v1), (2, .int v2)] [] := by
  refine k_aload_n B 0 rfl rfl dX6_copy_18 ?_
  refine k_getP (f := 448) (r := gP S 448 v0) B 7 0 rfl (by decide) rfl (by decide) rfl rfl (fun w h => in_of (uw_7 w h)) (in_of qfRX6_11) dX6_copy_19 h1 rfl ?_
  rw [h2]; change K _ _ _ _ _ _ _ _ _ _ _ _ _ _ _ _ _ _ (.ref x1 :: _)
  refine k_iload_n B 2 rfl rfl dX6_copy_22 ?_
  refine k_aload_n B 1 rfl rfl dX6_copy_23 ?_
  refine k_getP (f := 448) (r := gP S 448 v1) B 7 0 rfl (by decide) rfl (by decide) rfl rfl (fun w h => in_of (uw_7 w h)) (in_of qfRX6_11) dX6_copy_24 h3 rfl ?_
  rw [h4]; change K _ _ _ _ _ _ _ _ _ _ _ _ _ _ _ _ _ _ (.ref x2 :: _)
  refine k_iload_n B 2 rfl rfl dX6_copy_27 ?_
  refine k_aald (v := (rP S x2) v2.toNatClampNeg) B dX6_copy_28 h5 h6 rfl ?_
  rw [h7]; change K _ _ _ _ _ _ _ _ _ _ _ _ _ _ _ _ _ _ (.ref x3 :: _)
  refine k_aast (g := rP S x1) (S' := sRP S x1 (va_up (rP S x1) v2.toNatClampNeg (some x3))) B dX6_copy_29 h8 h10 h9 rfl rfl ?_
  refine k_iinc (v := v2 + 1) (lst' := [(2, .int (v2 + 1)), (0, .ref v0), (1, .ref v1)]) B 2 rfl rfl (by decide) rfl dX6_copy_30 ?_
  refine k_goto (tgt := 10) B dX6_copy_33 (by decide) ?_
  refine k_sub [1, 2, 0] rfl ?_
  exact kk
theorem bX6_copy_36 (B : Bd p s m args meth c cX6_copy 3 (wsOf yX6_copy cX6_copy 3 none) RX6 w none "copy") {post : St → Prop}  (hq : post S) : K p l e rX6_copy s m args below meth c 3 w 0 0 (MQ below (va_Qv post (fun S' t => Hd w S' t.heap) (wA w)) args s 0 0 (wA w)) S 36 [] [] := by
  exact ret_V B rfl dX6_copy_36 (hq)
theorem bX6_insert_0 (B : Bd p s m args meth c cX6_insert 4 (wsOf yX6_insert cX6_insert 4 none) RX6 w none "insert") {v0 : Nat} {v1 : Nat} {v2 : Int32} {x1 : Nat} {Q : State → Prop} (h1 : kd S v0 = 8) (h2 : gP S 448 v0 = some x1) (h3 : kd S x1 = 22) (kt : (nI (ln S x1)) ≤ (gI S 449 v0) → K p l e rX6_insert s m args below meth c 4 w 0 0 Q S 24 [] []) (kf : ¬ (nI (ln S x1)) ≤ (gI S 449 v0) → K p l e rX6_insert s m args below meth c 4 w 0 0 Q S 12 [(0, .ref v0), (1, .ref v1), (2, .int v2)] []) : K p l e rX6_insert s m args below meth c 4 w 0 0 Q S 0 [(0, .ref v0), (1, .ref v1), (2, .int v2)] [] := by
  refine k_aload_n B 0 rfl rfl dX6_insert_0 ?_
  refine k_getI (f := 449) (v := gI S 449 v0) B 7 1 rfl (by decide) rfl (by decide) rfl rfl (fun w h => in_of (uw_7 w h)) (in_of qfRX6_17) dX6_insert_1 h1 rfl ?_
  refine k_aload_n B 0 rfl rfl dX6_insert_4 ?_
  refine k_getP (f := 448) (r := gP S 448 v0) B 7 0 rfl (by decide) rfl (by decide) rfl rfl (fun w h => in_of (uw_7 w h)) (in_of qfRX6_11) dX6_insert_5 h1 rfl ?_
  rw [h2]; change K _ _ _ _ _ _ _ _ _ _ _ _ _ _ _ _ _ _ (.ref x1 :: _)
  refine k_alen (v := nI (ln S x1)) B dX6_insert_8 h3 rfl ?_
  refine k_icmp_ge (tgt := 24) B dX6_insert_9 (by decide) (fun c => ?_) (fun c => ?_)
  · refine k_sub [] rfl ?_
    exact kt c
  · exact kf c
theorem bX6_insert_12 (B : Bd p s m args meth c cX6_insert 4 (wsOf yX6_insert cX6_insert 4 none) RX6 w none "insert") {v0 : Nat} {v1 : Nat} {v2 : Int32} {Q : State → Prop}  (kt : v2 < 0 → K p l e rX6_insert s m args below meth c 4 w 0 0 Q S 24 [] []) (kf : ¬ v2 < 0 → K p l e rX6_insert s m args below meth c 4 w 0 0 Q S 16 [(0, .ref v0), (1, .ref v1), (2, .int v2)] []) : K p l e rX6_insert s m args below meth c 4 w 0 0 Q S 12 [(0, .ref v0), (1, .ref v1), (2, .int v2)] [] := by
  refine k_iload_n B 2 rfl rfl dX6_insert_12 ?_
  refine k_if_lt (tgt := 24) B dX6_insert_13 (by decide) (fun c => ?_) (fun c => ?_)
  · refine k_sub [] rfl ?_
    exact kt c
  · exact kf c
theorem bX6_insert_16 (B : Bd p s m args meth c cX6_insert 4 (wsOf yX6_insert cX6_insert 4 none) RX6 w none "insert") {v0 : Nat} {v1 : Nat} {v2 : Int32} {Q : State → Prop} (h1 : kd S v0 = 8) (kt : v2 ≤ (gI S 449 v0) → K p l e rX6_insert s m args below meth c 4 w 0 0 Q S 25 [(0, .ref v0), (1, .ref v1), (2, .int v2)] []) (kf : ¬ v2 ≤ (gI S 449 v0) → K p l e rX6_insert s m args below meth c 4 w 0 0 Q S 24 [] []) : K p l e rX6_insert s m args below meth c 4 w 0 0 Q S 16 [(0, .ref v0), (1, .ref v1), (2, .int v2)] [] := by
  refine k_iload_n B 2 rfl rfl dX6_insert_16 ?_
  refine k_aload_n B 0 rfl rfl dX6_insert_17 ?_
  refine k_getI (f := 449) (v := gI S 449 v0) B 7 1 rfl (by decide) rfl (by decide) rfl rfl (fun w h => in_of (uw_7 w h)) (in_of qfRX6_17) dX6_insert_18 h1 rfl ?_
  refine k_icmp_le (tgt := 25) B dX6_insert_21 (by decide) (fun c => ?_) (fun c => ?_)
  · exact kt c
  · refine k_sub [] rfl ?_
    exact kf c
theorem bX6_insert_24 (B : Bd p s m args meth c cX6_insert 4 (wsOf yX6_insert cX6_insert 4 none) RX6 w none "insert") {post : St → Prop}  (hq : post S) : K p l e rX6_insert s m args below meth c 4 w 0 0 (MQ below (va_Qv post (fun S' t => Hd w S' t.heap) (wA w)) args s 0 0 (wA w)) S 24 [] [] := by
  exact ret_V B rfl dX6_insert_24 (hq)
theorem bX6_insert_25 (B : Bd p s m args meth c cX6_insert 4 (wsOf yX6_insert cX6_insert 4 none) RX6 w none "insert") {v0 : Nat} {v1 : Nat} {v2 : Int32} {Q : State → Prop} (h1 : kd S v0 = 8) (kk : K p l e rX6_insert s m args below meth c 4 w 0 0 Q S 30 [(0, .ref v0), (1, .ref v1), (2, .int v2), (3, .int (gI S 449 v0))] []) : K p l e rX6_insert s m args below meth c 4 w 0 0 Q S 25 [(0, .ref v0), (1, .ref v1), (2, .int v2)] [] := by
  refine k_aload_n B 0 rfl rfl dX6_insert_25 ?_
  refine k_getI (f := 449) (v := gI S 449 v0) B 7 1 rfl (by decide) rfl (by decide) rfl rfl (fun w h => in_of (uw_7 w h)) (in_of qfRX6_17) dX6_insert_26 h1 rfl ?_
  refine k_istore_n (lst' := [(3, .int (gI S 449 v0)), (0, .ref v0), (1, .ref v1), (2, .int v2)]) B rfl (by decide) rfl dX6_insert_29 ?_
  refine k_sub [1, 2, 3, 0] rfl ?_
  exact kk
theorem bX6_insert_30 (B : Bd p s m args meth c cX6_insert 4 (wsOf yX6_insert cX6_insert 4 none) RX6 w none "insert") {v0 : Nat} {v1 : Nat} {v2 : Int32} {v3 : Int32} {Q : State → Prop}  (kt : v3 ≤ v2 → K p l e rX6_insert s m args below meth c 4 w 0 0 Q S 55 [(0, .ref v0), (1, .ref v1), (2, .int v2)] []) (kf : ¬ v3 ≤ v2 → K p l e rX6_insert s m args below meth c 4 w 0 0 Q S 35 [(0, .ref v0), (1, .ref v1), (2, .int v2), (3, .int v3)] []) : K p l e rX6_insert s m args below meth c 4 w 0 0 Q S 30 [(0, .ref v0), (1, .ref v1), (2, .int v2), (3, .int v3)] [] := by
  refine k_iload_n B 3 rfl rfl dX6_insert_30 ?_
  refine k_iload_n B 2 rfl rfl dX6_insert_31 ?_
  refine k_icmp_le (tgt := 55) B dX6_insert_32 (by decide) (fun c => ?_) (fun c => ?_)
  · refine k_sub [0, 1, 2] rfl ?_
    exact kt c
  · exact kf c
theorem bX6_insert_35 (B : Bd p s m args meth c cX6_insert 4 (wsOf yX6_insert cX6_insert 4 none) RX6 w none "insert") {v0 : Nat} {v1 : Nat} {v2 : Int32} {v3 : Int32} {x1 : Nat} {x2 : Nat} {x3 : Nat} {Q : State → Prop} (h1 : kd S v0 = 8) (h2 : gP S 448 v0 = some x1) (h3 : gP S 448 v0 = some x2) (h4 : kd S x2 = 22) (h5 : vp_in (v3 - 1) (ln S x2)) (h6 : (rP S x2) (v3 - 1).toNatClampNeg = some x3) (h7 : kd S x1 = 22) (h8 : kd S x3 = 5) (h9 : vp_in v3 (ln S x1)) (kk : K p l e rX6_insert s m args below meth c 4 w 0 0 Q (sRP S x1 (va_up (rP S x1) v3.toNatClampNeg (some x3))) 30 [(0, .ref v0), (1, .ref v1), (2, .int v2), (3, .int (v3 + (-1)))] []) : K p l e rX6_insert s m args below meth c 4 w 0 0 Q S 35 [(0, .ref v0), (1, .ref v1), (2, .int v2), (3, .int v3)] [] := by
  refine k_aload_n B 0 rfl rfl dX6_insert_35 ?_
  refine k_getP (f := 448) (r := gP S 448 v0) B 7 0 rfl (by decide) rfl (by decide) rfl rfl (fun w h => in_of (uw_7 w h)) (in_of qfRX6_11) dX6_insert_36 h1 rfl ?_
  rw [h2]; change K _ _ _ _ _ _ _ _ _ _ _ _ _ _ _ _ _ _ (.ref x1 :: _)
  refine k_iload_n B 3 rfl rfl dX6_insert_39 ?_
  refine k_aload_n B 0 rfl rfl dX6_insert_40 ?_
  refine k_getP (f := 448) (r := gP S 448 v0) B 7 0 rfl (by decide) rfl (by decide) rfl rfl (fun w h => in_of (uw_7 w h)) (in_of qfRX6_11) dX6_insert_41 h1 rfl ?_
  rw [h3]; change K _ _ _ _ _ _ _ _ _ _ _ _ _ _ _ _ _ _ (.ref x2 :: _)
  refine k_iload_n B 3 rfl rfl dX6_insert_44 ?_
  refine k_iconst (v := 1) B (by decide) dX6_insert_45 ?_
  refine k_isub B dX6_insert_46 ?_
  refine k_aald (v := (rP S x2) (v3 - 1).toNatClampNeg) B dX6_insert_47 h4 h5 rfl ?_
  rw [h6]; change K _ _ _ _ _ _ _ _ _ _ _ _ _ _ _ _ _ _ (.ref x3 :: _)
  refine k_aast (g := rP S x1) (S' := sRP S x1 (va_up (rP S x1) v3.toNatClampNeg (some x3))) B dX6_insert_48 h7 h9 h8 rfl rfl ?_
  refine k_iinc (v := v3 + (-1)) (lst' := [(3, .int (v3 + (-1))), (0, .ref v0), (1, .ref v1), (2, .int v2)]) B 3 rfl (congrArg (fun z => v3 + z) (by decide)) (by decide) rfl dX6_insert_49 ?_
  refine k_goto (tgt := 30) B dX6_insert_52 (by decide) ?_
  refine k_sub [1, 2, 3, 0] rfl ?_
  exact kk
theorem bX6_insert_55 (B : Bd p s m args meth c cX6_insert 4 (wsOf yX6_insert cX6_insert 4 none) RX6 w none "insert") {v0 : Nat} {v1 : Nat} {v2 : Int32} {x1 : Nat} {post : St → Prop} (h1 : kd S v0 = 8) (h2 : gP S 448 v0 = some x1) (h3 : kd S x1 = 22) (h4 : kd S v1 = 5) (h5 : vp_in v2 (ln S x1)) (hq : post (sI (sRP S x1 (va_up (rP S x1) v2.toNatClampNeg (some v1))) 449 v0 ((gI S 449 v0) + 1))) : K p l e rX6_insert s m args below meth c 4 w 0 0 (MQ below (va_Qv post (fun S' t => Hd w S' t.heap) (wA w)) args s 0 0 (wA w)) S 55 [(0, .ref v0), (1, .ref v1), (2, .int v2)] [] := by
  refine k_aload_n B 0 rfl rfl dX6_insert_55 ?_
  refine k_getP (f := 448) (r := gP S 448 v0) B 7 0 rfl (by decide) rfl (by decide) rfl rfl (fun w h => in_of (uw_7 w h)) (in_of qfRX6_11) dX6_insert_56 h1 rfl ?_
  rw [h2]; change K _ _ _ _ _ _ _ _ _ _ _ _ _ _ _ _ _ _ (.ref x1 :: _)
  refine k_iload_n B 2 rfl rfl dX6_insert_59 ?_
  refine k_aload_n B 1 rfl rfl dX6_insert_60 ?_
  refine k_aast (g := rP S x1) (S' := sRP S x1 (va_up (rP S x1) v2.toNatClampNeg (some v1))) B dX6_insert_61 h3 h5 h4 rfl rfl ?_
  refine k_aload_n B 0 rfl rfl dX6_insert_62 ?_
  refine k_dup B rfl dX6_insert_63 ?_
  refine k_getI (f := 449) (v := gI S 449 v0) B 7 1 rfl (by decide) rfl (by decide) rfl rfl (fun w h => in_of (uw_7 w h)) (in_of qfRX6_17) dX6_insert_64 h1 rfl ?_
  refine k_iconst (v := 1) B (by decide) dX6_insert_67 ?_
  refine k_iadd B dX6_insert_68 ?_
  refine k_putI (f := 449) B 7 1 rfl (by decide) rfl (by decide) rfl rfl (fun w h => in_of (uw_7 w h)) (in_of qfRX6_17) tyX6 tyX6_ok nmX6 rfl (tyX6_ok 1 (by decide)) dX6_insert_69 h1 ?_
  exact ret_V B rfl dX6_insert_72 (hq)
theorem bX6_remove_0 (B : Bd p s m args meth c cX6_remove 4 (wsOf yX6_remove cX6_remove 4 none) RX6 w none "remove") {v0 : Nat} {v1 : Nat} {Q : State → Prop}  (kk : K p l e rX6_remove s m args below meth c 4 w 0 0 Q S 4 [(0, .ref v0), (1, .ref v1), (2, .int 0), (3, .int 0)] []) : K p l e rX6_remove s m args below meth c 4 w 0 0 Q S 0 [(0, .ref v0), (1, .ref v1)] [] := by
  refine k_iconst (v := 0) B (by decide) dX6_remove_0 ?_
  refine k_istore_n (lst' := [(2, .int 0), (0, .ref v0), (1, .ref v1)]) B rfl (by decide) rfl dX6_remove_1 ?_
  refine k_iconst (v := 0) B (by decide) dX6_remove_2 ?_
  refine k_istore_n (lst' := [(3, .int 0), (2, .int 0), (0, .ref v0), (1, .ref v1)]) B rfl (by decide) rfl dX6_remove_3 ?_
  refine k_sub [2, 3, 1, 0] rfl ?_
  exact kk
theorem bX6_remove_4 (B : Bd p s m args meth c cX6_remove 4 (wsOf yX6_remove cX6_remove 4 none) RX6 w none "remove") {v0 : Nat} {v1 : Nat} {v2 : Int32} {v3 : Int32} {Q : State → Prop} (h1 : kd S v0 = 8) (kt : (gI S 449 v0) ≤ v3 → K p l e rX6_remove s m args below meth c 4 w 0 0 Q S 43 [(0, .ref v0), (2, .int v2)] []) (kf : ¬ (gI S 449 v0) ≤ v3 → K p l e rX6_remove s m args below meth c 4 w 0 0 Q S 12 [(0, .ref v0), (1, .ref v1), (2, .int v2), (3, .int v3)] []) : K p l e rX6_remove s m args below meth c 4 w 0 0 Q S 4 [(0, .ref v0), (1, .ref v1), (2, .int v2), (3, .int v3)] [] := by
  refine k_iload_n B 3 rfl rfl dX6_remove_4 ?_
  refine k_aload_n B 0 rfl rfl dX6_remove_5 ?_
  refine k_getI (f := 449) (v := gI S 449 v0) B 7 1 rfl (by decide) rfl (by decide) rfl rfl (fun w h => in_of (uw_7 w h)) (in_of qfRX6_17) dX6_remove_6 h1 rfl ?_
  refine k_icmp_ge (tgt := 43) B dX6_remove_9 (by decide) (fun c => ?_) (fun c => ?_)
  · refine k_sub [0, 2] rfl ?_
    exact kt c
  · exact kf c
theorem bX6_remove_12 (B : Bd p s m args meth c cX6_remove 4 (wsOf yX6_remove cX6_remove 4 none) RX6 w none "remove") {v0 : Nat} {v1 : Nat} {v2 : Int32} {v3 : Int32} {x1 : Nat} {Q : State → Prop} (h1 : kd S v0 = 8) (h2 : gP S 448 v0 = some x1) (h3 : kd S x1 = 22) (h4 : vp_in v3 (ln S x1)) (kt : ((rP S x1) v3.toNatClampNeg) = (some v1) → K p l e rX6_remove s m args below meth c 4 w 0 0 Q S 37 [(0, .ref v0), (1, .ref v1), (2, .int v2), (3, .int v3)] []) (kf : ¬ ((rP S x1) v3.toNatClampNeg) = (some v1) → K p l e rX6_remove s m args below meth c 4 w 0 0 Q S 22 [(0, .ref v0), (1, .ref v1), (2, .int v2), (3, .int v3)] []) : K p l e rX6_remove s m args below meth c 4 w 0 0 Q S 12 [(0, .ref v0), (1, .ref v1), (2, .int v2), (3, .int v3)] [] := by
  refine k_aload_n B 0 rfl rfl dX6_remove_12 ?_
  refine k_getP (f := 448) (r := gP S 448 v0) B 7 0 rfl (by decide) rfl (by decide) rfl rfl (fun w h => in_of (uw_7 w h)) (in_of qfRX6_11) dX6_remove_13 h1 rfl ?_
  rw [h2]; change K _ _ _ _ _ _ _ _ _ _ _ _ _ _ _ _ _ _ (.ref x1 :: _)
  refine k_iload_n B 3 rfl rfl dX6_remove_16 ?_
  refine k_aald (v := (rP S x1) v3.toNatClampNeg) B dX6_remove_17 h3 h4 rfl ?_
  refine k_aload_n B 1 rfl rfl dX6_remove_18 ?_
  refine k_acmp_eq (rx := (rP S x1) v3.toNatClampNeg) (ry := some v1) (tgt := 37) B dX6_remove_19 (by decide) (fun c => ?_) (fun c => ?_)
  · exact kt c
  · exact kf c
theorem bX6_remove_22 (B : Bd p s m args meth c cX6_remove 4 (wsOf yX6_remove cX6_remove 4 none) RX6 w none "remove") {v0 : Nat} {v1 : Nat} {v2 : Int32} {v3 : Int32} {x1 : Nat} {x2 : Nat} {x3 : Nat} {Q : State → Prop} (h1 : kd S v0 = 8) (h2 : gP S 448 v0 = some x1) (h3 : gP S 448 v0 = some x2) (h4 : kd S x2 = 22) (h5 : vp_in v3 (ln S x2)) (h6 : (rP S x2) v3.toNatClampNeg = some x3) (h7 : kd S x1 = 22) (h8 : kd S x3 = 5) (h9 : vp_in v2 (ln S x1)) (kk : K p l e rX6_remove s m args below meth c 4 w 0 0 Q (sRP S x1 (va_up (rP S x1) v2.toNatClampNeg (some x3))) 37 [(0, .ref v0), (1, .ref v1), (2, .int (v2 + 1)), (3, .int v3)] []) : K p l e rX6_remove s m args below meth c 4 w 0 0 Q S 22 [(0, .ref v0), (1, .ref v1), (2, .int v2), (3, .int v3)] [] := by
  refine k_aload_n B 0 rfl rfl dX6_remove_22 ?_
  refine k_getP (f := 448) (r := gP S 448 v0) B 7 0 rfl (by decide) rfl (by decide) rfl rfl (fun w h => in_of (uw_7 w h)) (in_of qfRX6_11) dX6_remove_23 h1 rfl ?_
  rw [h2]; change K _ _ _ _ _ _ _ _ _ _ _ _ _ _ _ _ _ _ (.ref x1 :: _)
  refine k_iload_n B 2 rfl rfl dX6_remove_26 ?_
  refine k_aload_n B 0 rfl rfl dX6_remove_27 ?_
  refine k_getP (f := 448) (r := gP S 448 v0) B 7 0 rfl (by decide) rfl (by decide) rfl rfl (fun w h => in_of (uw_7 w h)) (in_of qfRX6_11) dX6_remove_28 h1 rfl ?_
  rw [h3]; change K _ _ _ _ _ _ _ _ _ _ _ _ _ _ _ _ _ _ (.ref x2 :: _)
  refine k_iload_n B 3 rfl rfl dX6_remove_31 ?_
  refine k_aald (v := (rP S x2) v3.toNatClampNeg) B dX6_remove_32 h4 h5 rfl ?_
  rw [h6]; change K _ _ _ _ _ _ _ _ _ _ _ _ _ _ _ _ _ _ (.ref x3 :: _)
  refine k_aast (g := rP S x1) (S' := sRP S x1 (va_up (rP S x1) v2.toNatClampNeg (some x3))) B dX6_remove_33 h7 h9 h8 rfl rfl ?_
  refine k_iinc (v := v2 + 1) (lst' := [(2, .int (v2 + 1)), (0, .ref v0), (1, .ref v1), (3, .int v3)]) B 2 rfl rfl (by decide) rfl dX6_remove_34 ?_
  refine k_sub [1, 2, 0, 3] rfl ?_
  exact kk
theorem bX6_remove_37 (B : Bd p s m args meth c cX6_remove 4 (wsOf yX6_remove cX6_remove 4 none) RX6 w none "remove") {v0 : Nat} {v1 : Nat} {v2 : Int32} {v3 : Int32} {Q : State → Prop}  (kk : K p l e rX6_remove s m args below meth c 4 w 0 0 Q S 4 [(0, .ref v0), (1, .ref v1), (2, .int v2), (3, .int (v3 + 1))] []) : K p l e rX6_remove s m args below meth c 4 w 0 0 Q S 37 [(0, .ref v0), (1, .ref v1), (2, .int v2), (3, .int v3)] [] := by
  refine k_iinc (v := v3 + 1) (lst' := [(3, .int (v3 + 1)), (0, .ref v0), (1, .ref v1), (2, .int v2)]) B 3 rfl rfl (by decide) rfl dX6_remove_37 ?_
  refine k_goto (tgt := 4) B dX6_remove_40 (by decide) ?_
  refine k_sub [1, 2, 3, 0] rfl ?_
  exact kk
theorem bX6_remove_43 (B : Bd p s m args meth c cX6_remove 4 (wsOf yX6_remove cX6_remove 4 none) RX6 w none "remove") {v0 : Nat} {v2 : Int32} {post : St → Prop} (h1 : kd S v0 = 8) (hq : post (sI S 449 v0 v2)) : K p l e rX6_remove s m args below meth c 4 w 0 0 (MQ below (va_Qv post (fun S' t => Hd w S' t.heap) (wA w)) args s 0 0 (wA w)) S 43 [(0, .ref v0), (2, .int v2)] [] := by
  refine k_aload_n B 0 rfl rfl dX6_remove_43 ?_
  refine k_iload_n B 1 rfl rfl dX6_remove_44 ?_
  refine k_putI (f := 449) B 7 1 rfl (by decide) rfl (by decide) rfl rfl (fun w h => in_of (uw_7 w h)) (in_of qfRX6_17) tyX6 tyX6_ok nmX6 rfl (tyX6_ok 1 (by decide)) dX6_remove_45 h1 ?_
  exact ret_V B rfl dX6_remove_48 (hq)
theorem bX6_turn_0 (B : Bd p s m args meth c cX6_turn 6 (wsOf yX6_turn cX6_turn 6 none) RX6 w none "turn") {v0 : Nat} {v1 : Int32} {v2 : Int32} {Q : State → Prop}  (kk : K p l e rX6_turn s m args below meth c 6 w 0 0 Q S 5 [(0, .ref v0), (3, .int v1), (4, .int v2)] []) : K p l e rX6_turn s m args below meth c 6 w 0 0 Q S 0 [(0, .ref v0), (1, .int v1), (2, .int v2)] [] := by
  refine k_iload_n B 1 rfl rfl dX6_turn_0 ?_
  refine k_istore_n (lst' := [(3, .int v1), (0, .ref v0), (1, .int v1), (2, .int v2)]) B rfl (by decide) rfl dX6_turn_1 ?_
  refine k_iload_n B 3 rfl rfl dX6_turn_2 ?_
  refine k_istore (lst' := [(4, .int v2), (3, .int v1), (0, .ref v0), (1, .int v1), (2, .int v2)]) B (by decide) rfl dX6_turn_3 ?_
  refine k_sub [2, 1, 0] rfl ?_
  exact kk
theorem bX6_turn_5 (B : Bd p s m args meth c cX6_turn 6 (wsOf yX6_turn cX6_turn 6 none) RX6 w none "turn") {v0 : Nat} {v3 : Int32} {v4 : Int32} {Q : State → Prop}  (kt : v4 ≤ v3 → K p l e rX6_turn s m args below meth c 6 w 0 0 Q S 50 [] []) (kf : ¬ v4 ≤ v3 → K p l e rX6_turn s m args below meth c 6 w 0 0 Q S 11 [(0, .ref v0), (3, .int v3), (4, .int v4)] []) : K p l e rX6_turn s m args below meth c 6 w 0 0 Q S 5 [(0, .ref v0), (3, .int v3), (4, .int v4)] [] := by
  refine k_iload_n B 1 rfl rfl dX6_turn_5 ?_
  refine k_iload B 2 rfl dX6_turn_6 ?_
  refine k_icmp_ge (tgt := 50) B dX6_turn_8 (by decide) (fun c => ?_) (fun c => ?_)
  · refine k_sub [] rfl ?_
    exact kt c
  · exact kf c
theorem bX6_turn_11 (B : Bd p s m args meth c cX6_turn 6 (wsOf yX6_turn cX6_turn 6 none) RX6 w none "turn") {v0 : Nat} {v3 : Int32} {v4 : Int32} {x1 : Nat} {x2 : Nat} {x3 : Nat} {x4 : Nat} {x5 : Nat} {x6 : Nat} {Q : State → Prop} (h1 : kd S v0 = 8) (h2 : gP S 448 v0 = some x1) (h3 : kd S x1 = 22) (h4 : vp_in v3 (ln S x1)) (h5 : (rP S x1) v3.toNatClampNeg = some x2) (h6 : gP S 448 v0 = some x3) (h7 : gP S 448 v0 = some x4) (h8 : kd S x4 = 22) (h9 : vp_in v4 (ln S x4)) (h10 : (rP S x4) v4.toNatClampNeg = some x5) (h11 : kd S x3 = 22) (h12 : kd S x5 = 5) (h13 : vp_in v3 (ln S x3)) (h14 : gP S 448 v0 = some x6) (h15 : kd S x6 = 22) (h16 : kd S x2 = 5) (h17 : vp_in v4 (ln S x6)) (kk : K p l e rX6_turn s m args below meth c 6 w 0 0 Q (sRP (sRP S x3 (va_up (rP S x3) v3.toNatClampNeg (some x5))) x6 (va_up (rP (sRP S x3 (va_up (rP S x3) v3.toNatClampNeg (some x5))) x6) v4.toNatClampNeg (some x2))) 5 [(0, .ref v0), (3, .int (v3 + 1)), (4, .int (v4 + (-1)))] []) : K p l e rX6_turn s m args below meth c 6 w 0 0 Q S 11 [(0, .ref v0), (3, .int v3), (4, .int v4)] [] := by
  refine k_aload_n B 0 rfl rfl dX6_turn_11 ?_
  refine k_getP (f := 448) (r := gP S 448 v0) B 7 0 rfl (by decide) rfl (by decide) rfl rfl (fun w h => in_of (uw_7 w h)) (in_of qfRX6_11) dX6_turn_12 h1 rfl ?_
  rw [h2]; change K _ _ _ _ _ _ _ _ _ _ _ _ _ _ _ _ _ _ (.ref x1 :: _)
  refine k_iload_n B 1 rfl rfl dX6_turn_15 ?_
  refine k_aald (v := (rP S x1) v3.toNatClampNeg) B dX6_turn_16 h3 h4 rfl ?_
  rw [h5]; change K _ _ _ _ _ _ _ _ _ _ _ _ _ _ _ _ _ _ (.ref x2 :: _)
  refine k_astore (lst' := [(5, .ref x2), (0, .ref v0), (3, .int v3), (4, .int v4)]) B (by decide) rfl dX6_turn_17 ?_
  refine k_aload_n B 1 rfl rfl dX6_turn_19 ?_
  refine k_getP (f := 448) (r := gP S 448 v0) B 7 0 rfl (by decide) rfl (by decide) rfl rfl (fun w h => in_of (uw_7 w h)) (in_of qfRX6_11) dX6_turn_20 h1 rfl ?_
  rw [h6]; change K _ _ _ _ _ _ _ _ _ _ _ _ _ _ _ _ _ _ (.ref x3 :: _)
  refine k_iload_n B 2 rfl rfl dX6_turn_23 ?_
  refine k_aload_n B 1 rfl rfl dX6_turn_24 ?_
  refine k_getP (f := 448) (r := gP S 448 v0) B 7 0 rfl (by decide) rfl (by decide) rfl rfl (fun w h => in_of (uw_7 w h)) (in_of qfRX6_11) dX6_turn_25 h1 rfl ?_
  rw [h7]; change K _ _ _ _ _ _ _ _ _ _ _ _ _ _ _ _ _ _ (.ref x4 :: _)
  refine k_iload B 3 rfl dX6_turn_28 ?_
  refine k_aald (v := (rP S x4) v4.toNatClampNeg) B dX6_turn_30 h8 h9 rfl ?_
  rw [h10]; change K _ _ _ _ _ _ _ _ _ _ _ _ _ _ _ _ _ _ (.ref x5 :: _)
  refine k_aast (g := rP S x3) (S' := sRP S x3 (va_up (rP S x3) v3.toNatClampNeg (some x5))) B dX6_turn_31 h11 h13 h12 rfl rfl ?_
  refine k_aload_n B 1 rfl rfl dX6_turn_32 ?_
  refine k_getP (f := 448) (r := gP S 448 v0) B 7 0 rfl (by decide) rfl (by decide) rfl rfl (fun w h => in_of (uw_7 w h)) (in_of qfRX6_11) dX6_turn_33 h1 rfl ?_
  rw [h14]; change K _ _ _ _ _ _ _ _ _ _ _ _ _ _ _ _ _ _ (.ref x6 :: _)
  refine k_iload B 3 rfl dX6_turn_36 ?_
  refine k_aload B 0 rfl dX6_turn_38 ?_
  refine k_aast (g := rP (sRP S x3 (va_up (rP S x3) v3.toNatClampNeg (some x5))) x6) (S' := sRP (sRP S x3 (va_up (rP S x3) v3.toNatClampNeg (some x5))) x6 (va_up (rP (sRP S x3 (va_up (rP S x3) v3.toNatClampNeg (some x5))) x6) v4.toNatClampNeg (some x2))) B dX6_turn_40 h15 h17 h16 rfl rfl ?_
  refine k_iinc (v := v3 + 1) (lst' := [(3, .int (v3 + 1)), (5, .ref x2), (0, .ref v0), (4, .int v4)]) B 2 rfl rfl (by decide) rfl dX6_turn_41 ?_
  refine k_iinc (v := v4 + (-1)) (lst' := [(4, .int (v4 + (-1))), (3, .int (v3 + 1)), (5, .ref x2), (0, .ref v0)]) B 3 rfl (congrArg (fun z => v4 + z) (by decide)) (by decide) rfl dX6_turn_44 ?_
  refine k_goto (tgt := 5) B dX6_turn_47 (by decide) ?_
  refine k_sub [3, 1, 0] rfl ?_
  exact kk
theorem bX6_turn_50 (B : Bd p s m args meth c cX6_turn 6 (wsOf yX6_turn cX6_turn 6 none) RX6 w none "turn") {post : St → Prop}  (hq : post S) : K p l e rX6_turn s m args below meth c 6 w 0 0 (MQ below (va_Qv post (fun S' t => Hd w S' t.heap) (wA w)) args s 0 0 (wA w)) S 50 [] [] := by
  exact ret_V B rfl dX6_turn_50 (hq)
theorem bX6_fits_0 (B : Bd p s m args meth c cX6_fits 2 (wsOf yX6_fits cX6_fits 2 (some .boolean)) RX6 w (some .boolean) "fits") {v0 : Nat} {v1 : Int32} {Q : State → Prop} (h1 : kd S v0 = 8) (kt : 12 < (gI S 449 v0) → K p l e rX6_fits s m args below meth c 2 w 0 0 Q S 21 [] []) (kf : ¬ 12 < (gI S 449 v0) → K p l e rX6_fits s m args below meth c 2 w 0 0 Q S 9 [(0, .ref v0), (1, .int v1)] []) : K p l e rX6_fits s m args below meth c 2 w 0 0 Q S 0 [(0, .ref v0), (1, .int v1)] [] := by
  refine k_aload_n B 0 rfl rfl dX6_fits_0 ?_
  refine k_getI (f := 449) (v := gI S 449 v0) B 7 1 rfl (by decide) rfl (by decide) rfl rfl (fun w h => in_of (uw_7 w h)) (in_of qfRX6_17) dX6_fits_1 h1 rfl ?_
  refine k_bipush (v := 12) B (by decide) dX6_fits_4 ?_
  refine k_icmp_gt (tgt := 21) B dX6_fits_6 (by decide) (fun c => ?_) (fun c => ?_)
  · refine k_sub [] rfl ?_
    exact kt c
  · exact kf c
theorem bX6_fits_9 (B : Bd p s m args meth c cX6_fits 2 (wsOf yX6_fits cX6_fits 2 (some .boolean)) RX6 w (some .boolean) "fits") {v0 : Nat} {v1 : Int32} {post : Int32 → St → Prop} {Q : State → Prop} (hc : ConI l yX6_greatestLoad (wsOf yX6_greatestLoad cX6_greatestLoad 4 (some .int)) rX6_greatestLoad w S [.ref v0] post) (h1 : kd S v0 = 8) (kk : ∀ (r : Int32) (S' : St), post r S' → K p l e rX6_fits s m args below meth c 2 w 0 0 Q S' 13 [(1, .int v1)] [.int r]) : K p l e rX6_fits s m args below meth c 2 w 0 0 Q S 9 [(0, .ref v0), (1, .int v1)] [] := by
  refine k_aload_n B 0 rfl rfl dX6_fits_9 ?_
  refine callV_I (st := []) B [] (hc) (cwV 0 B.1.2.2.2.2 (gV qlRX6_21 qiX6_greatestLoad qeX6_greatestLoad qzRX6 qcX6_greatestLoad) rfl rfl rfl (by decide +kernel) ⟨Nat.le_of_ble_eq_true rfl, Nat.le_of_ble_eq_true rfl⟩) rfl rfl (by decide) h1 (Nat.le_of_ble_eq_true rfl) rfl dX6_fits_10 ⟨Nat.le_of_ble_eq_true rfl, Nat.le_of_ble_eq_true rfl⟩ (fun r S' hp => ?_)
  refine k_sub [1] rfl ?_
  exact kk r S' hp
theorem bX6_fits_13 (B : Bd p s m args meth c cX6_fits 2 (wsOf yX6_fits cX6_fits 2 (some .boolean)) RX6 w (some .boolean) "fits") {v1 : Int32} {t0 : Int32} {Q : State → Prop}  (kt : v1 < t0 → K p l e rX6_fits s m args below meth c 2 w 0 0 Q S 21 [] []) (kf : ¬ v1 < t0 → K p l e rX6_fits s m args below meth c 2 w 0 0 Q S 17 [] []) : K p l e rX6_fits s m args below meth c 2 w 0 0 Q S 13 [(1, .int v1)] [.int t0] := by
  refine k_iload_n B 0 rfl rfl dX6_fits_13 ?_
  refine k_icmp_gt (tgt := 21) B dX6_fits_14 (by decide) (fun c => ?_) (fun c => ?_)
  · refine k_sub [] rfl ?_
    exact kt c
  · refine k_sub [] rfl ?_
    exact kf c
theorem bX6_fits_17 (B : Bd p s m args meth c cX6_fits 2 (wsOf yX6_fits cX6_fits 2 (some .boolean)) RX6 w (some .boolean) "fits") {Q : State → Prop}  (kk : K p l e rX6_fits s m args below meth c 2 w 0 0 Q S 22 [] [.int 1]) : K p l e rX6_fits s m args below meth c 2 w 0 0 Q S 17 [] [] := by
  refine k_iconst (v := 1) B (by decide) dX6_fits_17 ?_
  refine k_goto (tgt := 22) B dX6_fits_18 (by decide) ?_
  exact kk
theorem bX6_fits_21 (B : Bd p s m args meth c cX6_fits 2 (wsOf yX6_fits cX6_fits 2 (some .boolean)) RX6 w (some .boolean) "fits") {Q : State → Prop}  (kk : K p l e rX6_fits s m args below meth c 2 w 0 0 Q S 22 [] [.int 0]) : K p l e rX6_fits s m args below meth c 2 w 0 0 Q S 21 [] [] := by
  refine k_iconst (v := 0) B (by decide) dX6_fits_21 ?_
  exact kk
theorem bX6_fits_22 (B : Bd p s m args meth c cX6_fits 2 (wsOf yX6_fits cX6_fits 2 (some .boolean)) RX6 w (some .boolean) "fits") {t0 : Int32} {post : Int32 → St → Prop}  (hv : t0 = 0 ∨ t0 = 1) (hq : post t0 S) : K p l e rX6_fits s m args below meth c 2 w 0 0 (MQ below (va_Qi post (fun S' t => Hd w S' t.heap) (wA w)) args s 0 0 (wA w)) S 22 [] [.int t0] := by
  exact ret_Z B rfl dX6_fits_22 (hv) (hq)
theorem bX6_loadAtDepot_0 (B : Bd p s m args meth c cX6_loadAtDepot 3 (wsOf yX6_loadAtDepot cX6_loadAtDepot 3 (some .int)) RX6 w (some .int) "loadAtDepot") {v0 : Nat} {Q : State → Prop}  (kk : K p l e rX6_loadAtDepot s m args below meth c 3 w 0 0 Q S 4 [(0, .ref v0), (1, .int 0), (2, .int 0)] []) : K p l e rX6_loadAtDepot s m args below meth c 3 w 0 0 Q S 0 [(0, .ref v0)] [] := by
  refine k_iconst (v := 0) B (by decide) dX6_loadAtDepot_0 ?_
  refine k_istore_n (lst' := [(1, .int 0), (0, .ref v0)]) B rfl (by decide) rfl dX6_loadAtDepot_1 ?_
  refine k_iconst (v := 0) B (by decide) dX6_loadAtDepot_2 ?_
  refine k_istore_n (lst' := [(2, .int 0), (1, .int 0), (0, .ref v0)]) B rfl (by decide) rfl dX6_loadAtDepot_3 ?_
  refine k_sub [2, 1, 0] rfl ?_
  exact kk
theorem bX6_loadAtDepot_4 (B : Bd p s m args meth c cX6_loadAtDepot 3 (wsOf yX6_loadAtDepot cX6_loadAtDepot 3 (some .int)) RX6 w (some .int) "loadAtDepot") {v0 : Nat} {v1 : Int32} {v2 : Int32} {Q : State → Prop} (h1 : kd S v0 = 8) (kt : (gI S 449 v0) ≤ v2 → K p l e rX6_loadAtDepot s m args below meth c 3 w 0 0 Q S 43 [(1, .int v1)] []) (kf : ¬ (gI S 449 v0) ≤ v2 → K p l e rX6_loadAtDepot s m args below meth c 3 w 0 0 Q S 12 [(0, .ref v0), (1, .int v1), (2, .int v2)] []) : K p l e rX6_loadAtDepot s m args below meth c 3 w 0 0 Q S 4 [(0, .ref v0), (1, .int v1), (2, .int v2)] [] := by
  refine k_iload_n B 2 rfl rfl dX6_loadAtDepot_4 ?_
  refine k_aload_n B 0 rfl rfl dX6_loadAtDepot_5 ?_
  refine k_getI (f := 449) (v := gI S 449 v0) B 7 1 rfl (by decide) rfl (by decide) rfl rfl (fun w h => in_of (uw_7 w h)) (in_of qfRX6_17) dX6_loadAtDepot_6 h1 rfl ?_
  refine k_icmp_ge (tgt := 43) B dX6_loadAtDepot_9 (by decide) (fun c => ?_) (fun c => ?_)
  · refine k_sub [1] rfl ?_
    exact kt c
  · exact kf c
theorem bX6_loadAtDepot_12 (B : Bd p s m args meth c cX6_loadAtDepot 3 (wsOf yX6_loadAtDepot cX6_loadAtDepot 3 (some .int)) RX6 w (some .int) "loadAtDepot") {v0 : Nat} {v1 : Int32} {v2 : Int32} {x1 : Nat} {x2 : Nat} {Q : State → Prop} (h1 : kd S v0 = 8) (h2 : gP S 448 v0 = some x1) (h3 : kd S x1 = 22) (h4 : vp_in v2 (ln S x1)) (h5 : (rP S x1) v2.toNatClampNeg = some x2) (h6 : kd S x2 = 5) (kt : (gI S 257 x2) = 2 → K p l e rX6_loadAtDepot s m args below meth c 3 w 0 0 Q S 37 [(0, .ref v0), (1, .int v1), (2, .int v2)] []) (kf : ¬ (gI S 257 x2) = 2 → K p l e rX6_loadAtDepot s m args below meth c 3 w 0 0 Q S 25 [(0, .ref v0), (1, .int v1), (2, .int v2)] []) : K p l e rX6_loadAtDepot s m args below meth c 3 w 0 0 Q S 12 [(0, .ref v0), (1, .int v1), (2, .int v2)] [] := by
  refine k_aload_n B 0 rfl rfl dX6_loadAtDepot_12 ?_
  refine k_getP (f := 448) (r := gP S 448 v0) B 7 0 rfl (by decide) rfl (by decide) rfl rfl (fun w h => in_of (uw_7 w h)) (in_of qfRX6_11) dX6_loadAtDepot_13 h1 rfl ?_
  rw [h2]; change K _ _ _ _ _ _ _ _ _ _ _ _ _ _ _ _ _ _ (.ref x1 :: _)
  refine k_iload_n B 2 rfl rfl dX6_loadAtDepot_16 ?_
  refine k_aald (v := (rP S x1) v2.toNatClampNeg) B dX6_loadAtDepot_17 h3 h4 rfl ?_
  rw [h5]; change K _ _ _ _ _ _ _ _ _ _ _ _ _ _ _ _ _ _ (.ref x2 :: _)
  refine k_getI (f := 257) (v := gI S 257 x2) B 4 1 rfl (by decide) rfl (by decide) rfl rfl (fun w h => in_of (uw_4 w h)) (in_of qfRX6_25) dX6_loadAtDepot_18 h6 rfl ?_
  refine k_iconst (v := 2) B (by decide) dX6_loadAtDepot_21 ?_
  refine k_icmp_eq (tgt := 37) B dX6_loadAtDepot_22 (by decide) (fun c => ?_) (fun c => ?_)
  · exact kt c
  · exact kf c
theorem bX6_loadAtDepot_25 (B : Bd p s m args meth c cX6_loadAtDepot 3 (wsOf yX6_loadAtDepot cX6_loadAtDepot 3 (some .int)) RX6 w (some .int) "loadAtDepot") {v0 : Nat} {v1 : Int32} {v2 : Int32} {x1 : Nat} {x2 : Nat} {Q : State → Prop} (h1 : kd S v0 = 8) (h2 : gP S 448 v0 = some x1) (h3 : kd S x1 = 22) (h4 : vp_in v2 (ln S x1)) (h5 : (rP S x1) v2.toNatClampNeg = some x2) (h6 : kd S x2 = 5) (kk : K p l e rX6_loadAtDepot s m args below meth c 3 w 0 0 Q S 37 [(0, .ref v0), (1, .int (v1 + (gI S 258 x2))), (2, .int v2)] []) : K p l e rX6_loadAtDepot s m args below meth c 3 w 0 0 Q S 25 [(0, .ref v0), (1, .int v1), (2, .int v2)] [] := by
  refine k_iload_n B 1 rfl rfl dX6_loadAtDepot_25 ?_
  refine k_aload_n B 0 rfl rfl dX6_loadAtDepot_26 ?_
  refine k_getP (f := 448) (r := gP S 448 v0) B 7 0 rfl (by decide) rfl (by decide) rfl rfl (fun w h => in_of (uw_7 w h)) (in_of qfRX6_11) dX6_loadAtDepot_27 h1 rfl ?_
  rw [h2]; change K _ _ _ _ _ _ _ _ _ _ _ _ _ _ _ _ _ _ (.ref x1 :: _)
  refine k_iload_n B 2 rfl rfl dX6_loadAtDepot_30 ?_
  refine k_aald (v := (rP S x1) v2.toNatClampNeg) B dX6_loadAtDepot_31 h3 h4 rfl ?_
  rw [h5]; change K _ _ _ _ _ _ _ _ _ _ _ _ _ _ _ _ _ _ (.ref x2 :: _)
  refine k_getI (f := 258) (v := gI S 258 x2) B 4 2 rfl (by decide) rfl (by decide) rfl rfl (fun w h => in_of (uw_4 w h)) (in_of qfRX6_28) dX6_loadAtDepot_32 h6 rfl ?_
  refine k_iadd B dX6_loadAtDepot_35 ?_
  refine k_istore_n (lst' := [(1, .int (v1 + (gI S 258 x2))), (0, .ref v0), (2, .int v2)]) B rfl (by decide) rfl dX6_loadAtDepot_36 ?_
  refine k_sub [1, 0, 2] rfl ?_
  exact kk
theorem bX6_loadAtDepot_37 (B : Bd p s m args meth c cX6_loadAtDepot 3 (wsOf yX6_loadAtDepot cX6_loadAtDepot 3 (some .int)) RX6 w (some .int) "loadAtDepot") {v0 : Nat} {v1 : Int32} {v2 : Int32} {Q : State → Prop}  (kk : K p l e rX6_loadAtDepot s m args below meth c 3 w 0 0 Q S 4 [(0, .ref v0), (1, .int v1), (2, .int (v2 + 1))] []) : K p l e rX6_loadAtDepot s m args below meth c 3 w 0 0 Q S 37 [(0, .ref v0), (1, .int v1), (2, .int v2)] [] := by
  refine k_iinc (v := v2 + 1) (lst' := [(2, .int (v2 + 1)), (0, .ref v0), (1, .int v1)]) B 2 rfl rfl (by decide) rfl dX6_loadAtDepot_37 ?_
  refine k_goto (tgt := 4) B dX6_loadAtDepot_40 (by decide) ?_
  refine k_sub [1, 2, 0] rfl ?_
  exact kk
theorem bX6_loadAtDepot_43 (B : Bd p s m args meth c cX6_loadAtDepot 3 (wsOf yX6_loadAtDepot cX6_loadAtDepot 3 (some .int)) RX6 w (some .int) "loadAtDepot") {v1 : Int32} {post : Int32 → St → Prop}  (hq : post v1 S) : K p l e rX6_loadAtDepot s m args below meth c 3 w 0 0 (MQ below (va_Qi post (fun S' t => Hd w S' t.heap) (wA w)) args s 0 0 (wA w)) S 43 [(1, .int v1)] [] := by
  refine k_iload_n B 0 rfl rfl dX6_loadAtDepot_43 ?_
  exact ret_I B rfl dX6_loadAtDepot_44 (hq)
theorem bX6_greatestLoad_0 (B : Bd p s m args meth c cX6_greatestLoad 4 (wsOf yX6_greatestLoad cX6_greatestLoad 4 (some .int)) RX6 w (some .int) "greatestLoad") {v0 : Nat} {post : Int32 → St → Prop} {Q : State → Prop} (hc : ConI l yX6_loadAtDepot (wsOf yX6_loadAtDepot cX6_loadAtDepot 3 (some .int)) rX6_loadAtDepot w S [.ref v0] post) (h1 : kd S v0 = 8) (kk : ∀ (r : Int32) (S' : St), post r S' → K p l e rX6_greatestLoad s m args below meth c 4 w 0 0 Q S' 4 [(0, .ref v0)] [.int r]) : K p l e rX6_greatestLoad s m args below meth c 4 w 0 0 Q S 0 [(0, .ref v0)] [] := by
  refine k_aload_n B 0 rfl rfl dX6_greatestLoad_0 ?_
  refine callV_I (st := []) B [] (hc) (cwV 0 B.1.2.2.2.2 (gV qlRX6_31 qiX6_loadAtDepot qeX6_loadAtDepot qzRX6 qcX6_loadAtDepot) rfl rfl rfl (by decide +kernel) ⟨Nat.le_of_ble_eq_true rfl, Nat.le_of_ble_eq_true rfl⟩) rfl rfl (by decide) h1 (Nat.le_of_ble_eq_true rfl) rfl dX6_greatestLoad_1 ⟨Nat.le_of_ble_eq_true rfl, Nat.le_of_ble_eq_true rfl⟩ (fun r S' hp => ?_)
  exact kk r S' hp
theorem bX6_greatestLoad_4 (B : Bd p s m args meth c cX6_greatestLoad 4 (wsOf yX6_greatestLoad cX6_greatestLoad 4 (some .int)) RX6 w (some .int) "greatestLoad") {v0 : Nat} {t0 : Int32} {Q : State → Prop}  (kk : K p l e rX6_greatestLoad s m args below meth c 4 w 0 0 Q S 9 [(0, .ref v0), (1, .int t0), (2, .int t0), (3, .int 0)] []) : K p l e rX6_greatestLoad s m args below meth c 4 w 0 0 Q S 4 [(0, .ref v0)] [.int t0] := by
  refine k_istore_n (lst' := [(1, .int t0), (0, .ref v0)]) B rfl (by decide) rfl dX6_greatestLoad_4 ?_
  refine k_iload_n B 0 rfl rfl dX6_greatestLoad_5 ?_
  refine k_istore_n (lst' := [(2, .int t0), (1, .int t0), (0, .ref v0)]) B rfl (by decide) rfl dX6_greatestLoad_6 ?_
  refine k_iconst (v := 0) B (by decide) dX6_greatestLoad_7 ?_
  refine k_istore_n (lst' := [(3, .int 0), (2, .int t0), (1, .int t0), (0, .ref v0)]) B rfl (by decide) rfl dX6_greatestLoad_8 ?_
  refine k_sub [3, 2, 1, 0] rfl ?_
  exact kk
theorem bX6_greatestLoad_9 (B : Bd p s m args meth c cX6_greatestLoad 4 (wsOf yX6_greatestLoad cX6_greatestLoad 4 (some .int)) RX6 w (some .int) "greatestLoad") {v0 : Nat} {v1 : Int32} {v2 : Int32} {v3 : Int32} {Q : State → Prop} (h1 : kd S v0 = 8) (kt : (gI S 449 v0) ≤ v3 → K p l e rX6_greatestLoad s m args below meth c 4 w 0 0 Q S 68 [(2, .int v2)] []) (kf : ¬ (gI S 449 v0) ≤ v3 → K p l e rX6_greatestLoad s m args below meth c 4 w 0 0 Q S 17 [(0, .ref v0), (1, .int v1), (2, .int v2), (3, .int v3)] []) : K p l e rX6_greatestLoad s m args below meth c 4 w 0 0 Q S 9 [(0, .ref v0), (1, .int v1), (2, .int v2), (3, .int v3)] [] := by
  refine k_iload_n B 3 rfl rfl dX6_greatestLoad_9 ?_
  refine k_aload_n B 0 rfl rfl dX6_greatestLoad_10 ?_
  refine k_getI (f := 449) (v := gI S 449 v0) B 7 1 rfl (by decide) rfl (by decide) rfl rfl (fun w h => in_of (uw_7 w h)) (in_of qfRX6_17) dX6_greatestLoad_11 h1 rfl ?_
  refine k_icmp_ge (tgt := 68) B dX6_greatestLoad_14 (by decide) (fun c => ?_) (fun c => ?_)
  · refine k_sub [2] rfl ?_
    exact kt c
  · exact kf c
theorem bX6_greatestLoad_17 (B : Bd p s m args meth c cX6_greatestLoad 4 (wsOf yX6_greatestLoad cX6_greatestLoad 4 (some .int)) RX6 w (some .int) "greatestLoad") {v0 : Nat} {v1 : Int32} {v2 : Int32} {v3 : Int32} {x1 : Nat} {x2 : Nat} {Q : State → Prop} (h1 : kd S v0 = 8) (h2 : gP S 448 v0 = some x1) (h3 : kd S x1 = 22) (h4 : vp_in v3 (ln S x1)) (h5 : (rP S x1) v3.toNatClampNeg = some x2) (h6 : kd S x2 = 5) (kt : ¬ (gI S 257 x2) = 2 → K p l e rX6_greatestLoad s m args below meth c 4 w 0 0 Q S 43 [(0, .ref v0), (2, .int v2), (3, .int v3)] [.int v1]) (kf : (gI S 257 x2) = 2 → K p l e rX6_greatestLoad s m args below meth c 4 w 0 0 Q S 31 [(0, .ref v0), (2, .int v2), (3, .int v3)] [.int v1]) : K p l e rX6_greatestLoad s m args below meth c 4 w 0 0 Q S 17 [(0, .ref v0), (1, .int v1), (2, .int v2), (3, .int v3)] [] := by
  refine k_iload_n B 1 rfl rfl dX6_greatestLoad_17 ?_
  refine k_aload_n B 0 rfl rfl dX6_greatestLoad_18 ?_
  refine k_getP (f := 448) (r := gP S 448 v0) B 7 0 rfl (by decide) rfl (by decide) rfl rfl (fun w h => in_of (uw_7 w h)) (in_of qfRX6_11) dX6_greatestLoad_19 h1 rfl ?_
  rw [h2]; change K _ _ _ _ _ _ _ _ _ _ _ _ _ _ _ _ _ _ (.ref x1 :: _)
  refine k_iload_n B 3 rfl rfl dX6_greatestLoad_22 ?_
  refine k_aald (v := (rP S x1) v3.toNatClampNeg) B dX6_greatestLoad_23 h3 h4 rfl ?_
  rw [h5]; change K _ _ _ _ _ _ _ _ _ _ _ _ _ _ _ _ _ _ (.ref x2 :: _)
  refine k_getI (f := 257) (v := gI S 257 x2) B 4 1 rfl (by decide) rfl (by decide) rfl rfl (fun w h => in_of (uw_4 w h)) (in_of qfRX6_25) dX6_greatestLoad_24 h6 rfl ?_
  refine k_iconst (v := 2) B (by decide) dX6_greatestLoad_27 ?_
  refine k_icmp_ne (tgt := 43) B dX6_greatestLoad_28 (by decide) (fun c => ?_) (fun c => ?_)
  · refine k_sub [0, 2, 3] rfl ?_
    exact kt c
  · refine k_sub [0, 2, 3] rfl ?_
    exact kf c
theorem bX6_greatestLoad_31 (B : Bd p s m args meth c cX6_greatestLoad 4 (wsOf yX6_greatestLoad cX6_greatestLoad 4 (some .int)) RX6 w (some .int) "greatestLoad") {v0 : Nat} {v2 : Int32} {v3 : Int32} {t0 : Int32} {x1 : Nat} {x2 : Nat} {Q : State → Prop} (h1 : kd S v0 = 8) (h2 : gP S 448 v0 = some x1) (h3 : kd S x1 = 22) (h4 : vp_in v3 (ln S x1)) (h5 : (rP S x1) v3.toNatClampNeg = some x2) (h6 : kd S x2 = 5) (kk : K p l e rX6_greatestLoad s m args below meth c 4 w 0 0 Q S 53 [(0, .ref v0), (2, .int v2), (3, .int v3)] [.int (gI S 258 x2), .int t0]) : K p l e rX6_greatestLoad s m args below meth c 4 w 0 0 Q S 31 [(0, .ref v0), (2, .int v2), (3, .int v3)] [.int t0] := by
  refine k_aload_n B 0 rfl rfl dX6_greatestLoad_31 ?_
  refine k_getP (f := 448) (r := gP S 448 v0) B 7 0 rfl (by decide) rfl (by decide) rfl rfl (fun w h => in_of (uw_7 w h)) (in_of qfRX6_11) dX6_greatestLoad_32 h1 rfl ?_
  rw [h2]; change K _ _ _ _ _ _ _ _ _ _ _ _ _ _ _ _ _ _ (.ref x1 :: _)
  refine k_iload_n B 2 rfl rfl dX6_greatestLoad_35 ?_
  refine k_aald (v := (rP S x1) v3.toNatClampNeg) B dX6_greatestLoad_36 h3 h4 rfl ?_
  rw [h5]; change K _ _ _ _ _ _ _ _ _ _ _ _ _ _ _ _ _ _ (.ref x2 :: _)
  refine k_getI (f := 258) (v := gI S 258 x2) B 4 2 rfl (by decide) rfl (by decide) rfl rfl (fun w h => in_of (uw_4 w h)) (in_of qfRX6_28) dX6_greatestLoad_37 h6 rfl ?_
  refine k_goto (tgt := 53) B dX6_greatestLoad_40 (by decide) ?_
  exact kk
theorem bX6_greatestLoad_43 (B : Bd p s m args meth c cX6_greatestLoad 4 (wsOf yX6_greatestLoad cX6_greatestLoad 4 (some .int)) RX6 w (some .int) "greatestLoad") {v0 : Nat} {v2 : Int32} {v3 : Int32} {t0 : Int32} {x1 : Nat} {x2 : Nat} {Q : State → Prop} (h1 : kd S v0 = 8) (h2 : gP S 448 v0 = some x1) (h3 : kd S x1 = 22) (h4 : vp_in v3 (ln S x1)) (h5 : (rP S x1) v3.toNatClampNeg = some x2) (h6 : kd S x2 = 5) (kk : K p l e rX6_greatestLoad s m args below meth c 4 w 0 0 Q S 53 [(0, .ref v0), (2, .int v2), (3, .int v3)] [.int (-(gI S 258 x2)), .int t0]) : K p l e rX6_greatestLoad s m args below meth c 4 w 0 0 Q S 43 [(0, .ref v0), (2, .int v2), (3, .int v3)] [.int t0] := by
  refine k_aload_n B 0 rfl rfl dX6_greatestLoad_43 ?_
  refine k_getP (f := 448) (r := gP S 448 v0) B 7 0 rfl (by decide) rfl (by decide) rfl rfl (fun w h => in_of (uw_7 w h)) (in_of qfRX6_11) dX6_greatestLoad_44 h1 rfl ?_
  rw [h2]; change K _ _ _ _ _ _ _ _ _ _ _ _ _ _ _ _ _ _ (.ref x1 :: _)
  refine k_iload_n B 2 rfl rfl dX6_greatestLoad_47 ?_
  refine k_aald (v := (rP S x1) v3.toNatClampNeg) B dX6_greatestLoad_48 h3 h4 rfl ?_
  rw [h5]; change K _ _ _ _ _ _ _ _ _ _ _ _ _ _ _ _ _ _ (.ref x2 :: _)
  refine k_getI (f := 258) (v := gI S 258 x2) B 4 2 rfl (by decide) rfl (by decide) rfl rfl (fun w h => in_of (uw_4 w h)) (in_of qfRX6_28) dX6_greatestLoad_49 h6 rfl ?_
  refine k_ineg B dX6_greatestLoad_52 ?_
  exact kk
theorem bX6_greatestLoad_53 (B : Bd p s m args meth c cX6_greatestLoad 4 (wsOf yX6_greatestLoad cX6_greatestLoad 4 (some .int)) RX6 w (some .int) "greatestLoad") {v0 : Nat} {v2 : Int32} {v3 : Int32} {t0 : Int32} {t1 : Int32} {Q : State → Prop}  (kt : (t0 + t1) ≤ v2 → K p l e rX6_greatestLoad s m args below meth c 4 w 0 0 Q S 62 [(0, .ref v0), (1, .int (t0 + t1)), (2, .int v2), (3, .int v3)] []) (kf : ¬ (t0 + t1) ≤ v2 → K p l e rX6_greatestLoad s m args below meth c 4 w 0 0 Q S 60 [(0, .ref v0), (1, .int (t0 + t1)), (3, .int v3)] []) : K p l e rX6_greatestLoad s m args below meth c 4 w 0 0 Q S 53 [(0, .ref v0), (2, .int v2), (3, .int v3)] [.int t1, .int t0] := by
  refine k_iadd B dX6_greatestLoad_53 ?_
  refine k_istore_n (lst' := [(1, .int (t0 + t1)), (0, .ref v0), (2, .int v2), (3, .int v3)]) B rfl (by decide) rfl dX6_greatestLoad_54 ?_
  refine k_iload_n B 0 rfl rfl dX6_greatestLoad_55 ?_
  refine k_iload_n B 2 rfl rfl dX6_greatestLoad_56 ?_
  refine k_icmp_le (tgt := 62) B dX6_greatestLoad_57 (by decide) (fun c => ?_) (fun c => ?_)
  · refine k_sub [1, 0, 2, 3] rfl ?_
    exact kt c
  · refine k_sub [1, 0, 3] rfl ?_
    exact kf c
theorem bX6_greatestLoad_60 (B : Bd p s m args meth c cX6_greatestLoad 4 (wsOf yX6_greatestLoad cX6_greatestLoad 4 (some .int)) RX6 w (some .int) "greatestLoad") {v0 : Nat} {v1 : Int32} {v3 : Int32} {Q : State → Prop}  (kk : K p l e rX6_greatestLoad s m args below meth c 4 w 0 0 Q S 62 [(0, .ref v0), (1, .int v1), (2, .int v1), (3, .int v3)] []) : K p l e rX6_greatestLoad s m args below meth c 4 w 0 0 Q S 60 [(0, .ref v0), (1, .int v1), (3, .int v3)] [] := by
  refine k_iload_n B 1 rfl rfl dX6_greatestLoad_60 ?_
  refine k_istore_n (lst' := [(2, .int v1), (0, .ref v0), (1, .int v1), (3, .int v3)]) B rfl (by decide) rfl dX6_greatestLoad_61 ?_
  refine k_sub [1, 2, 0, 3] rfl ?_
  exact kk
theorem bX6_greatestLoad_62 (B : Bd p s m args meth c cX6_greatestLoad 4 (wsOf yX6_greatestLoad cX6_greatestLoad 4 (some .int)) RX6 w (some .int) "greatestLoad") {v0 : Nat} {v1 : Int32} {v2 : Int32} {v3 : Int32} {Q : State → Prop}  (kk : K p l e rX6_greatestLoad s m args below meth c 4 w 0 0 Q S 9 [(0, .ref v0), (1, .int v1), (2, .int v2), (3, .int (v3 + 1))] []) : K p l e rX6_greatestLoad s m args below meth c 4 w 0 0 Q S 62 [(0, .ref v0), (1, .int v1), (2, .int v2), (3, .int v3)] [] := by
  refine k_iinc (v := v3 + 1) (lst' := [(3, .int (v3 + 1)), (0, .ref v0), (1, .int v1), (2, .int v2)]) B 3 rfl rfl (by decide) rfl dX6_greatestLoad_62 ?_
  refine k_goto (tgt := 9) B dX6_greatestLoad_65 (by decide) ?_
  refine k_sub [1, 2, 3, 0] rfl ?_
  exact kk
theorem bX6_greatestLoad_68 (B : Bd p s m args meth c cX6_greatestLoad 4 (wsOf yX6_greatestLoad cX6_greatestLoad 4 (some .int)) RX6 w (some .int) "greatestLoad") {v2 : Int32} {post : Int32 → St → Prop}  (hq : post v2 S) : K p l e rX6_greatestLoad s m args below meth c 4 w 0 0 (MQ below (va_Qi post (fun S' t => Hd w S' t.heap) (wA w)) args s 0 0 (wA w)) S 68 [(2, .int v2)] [] := by
  refine k_iload_n B 0 rfl rfl dX6_greatestLoad_68 ?_
  exact ret_I B rfl dX6_greatestLoad_69 (hq)
theorem bX8_init_0 (B : Bd p s m args meth c cX8_init 2 (wsOf yX8_init cX8_init 2 none) RX8 w none "<init>") {v0 : Nat} {k n : Nat} {Q : State → Prop} (h1 : k + 1 ≤ rX8_init.cells) (h2 : n + 24 ≤ rX8_init.slots) (kk : ∀ q7 : Nat, kd S q7 = 0 → K p l e rX8_init s m args below meth c 2 w (k + 1) (n + 24) Q (nw S q7 21 24) 9 [(0, .ref v0)] [.ref q7, .ref v0]) : K p l e rX8_init s m args below meth c 2 w k n Q S 0 [(0, .ref v0)] [] := by
  refine k_aload_n B 0 rfl rfl dX8_init_0 ?_
  refine k_objInit B (in_of qlRX8_3) (in_of qi_obj) (in_of qc_obj) (Nat.le_of_ble_eq_true rfl) (Nat.le_of_ble_eq_true rfl) dX8_init_1 ?_
  refine k_aload_n B 0 rfl rfl dX8_init_4 ?_
  refine k_bipush (v := 24) B (by decide) dX8_init_5 ?_
  refine k_newI (N' := 24) B (in_of qarrI) (by decide) (by decide) (by decide) h1 h2 dX8_init_7 (fun q7 f7 => ?_)
  exact kk q7 f7
theorem bX8_init_9 (B : Bd p s m args meth c cX8_init 2 (wsOf yX8_init cX8_init 2 none) RX8 w none "<init>") {v0 : Nat} {t0 : Nat} {t1 : Nat} {k n : Nat} {Q : State → Prop} (h1 : kd S t0 = 10) (h2 : k + 1 ≤ rX8_init.cells) (h3 : n + 2 ≤ rX8_init.slots) (kk : ∀ q13 : Nat, kd (sP S 576 t0 (some t1)) q13 = 0 → K p l e rX8_init s m args below meth c 2 w (k + 1) (n + 2) Q (nw (sP S 576 t0 (some t1)) q13 6 0) 16 [(0, .ref v0)] [.ref q13, .ref v0]) : K p l e rX8_init s m args below meth c 2 w k n Q S 9 [(0, .ref v0)] [.ref t1, .ref t0] := by
  refine k_putPF (f := 576) (v := some t1) B 9 0 rfl (by decide) rfl (by decide) rfl rfl (fun w h => in_of (uw_9 w h)) (in_of qfRX8_9) tyX8 tyX8_ok nmX8 rfl rfl rfl (tyX8_ok 0 (by decide)) rfl rfl dX8_init_9 h1 ?_
  refine k_aload_n B 0 rfl rfl dX8_init_12 ?_
  refine k_new B 5 rfl rfl (by decide) tyX4 tyX4_ok (by decide +kernel) (fun w h => in_of (uw_5 w h)) (in_of qkRX8_15) (in_of qn5) (in_of qzRX4) h2 h3 dX8_init_13 (fun q13 f13 => ?_)
  exact kk q13 f13
theorem bX8_init_16 (B : Bd p s m args meth c cX8_init 2 (wsOf yX8_init cX8_init 2 none) RX8 w none "<init>") {v0 : Nat} {t0 : Nat} {t1 : Nat} {post : St → Prop} {k n : Nat} {Q : State → Prop} (hc : ConV l yX4_init (wsOf yX4_init cX4_init 3 none) rX4_init w S [.ref t1, .int 30, .int 30] post) (h1 : k + 0 ≤ rX8_init.cells) (h2 : n + 0 ≤ rX8_init.slots) (kk : ∀ (S' : St), post S' → K p l e rX8_init s m args below meth c 2 w k n Q S' 24 [(0, .ref v0)] [.ref t1, .ref t0]) : K p l e rX8_init s m args below meth c 2 w k n Q S 16 [(0, .ref v0)] [.ref t1, .ref t0] := by
  refine k_dup B rfl dX8_init_16 ?_
  refine k_bipush (v := 30) B (by decide) dX8_init_17 ?_
  refine k_bipush (v := 30) B (by decide) dX8_init_19 ?_
  refine callC_V (st := [.ref t1, .ref t0]) B [.int 30, .int 30] (hc) (cwI 2 B.1.2.2.2.2 (gB qcX4_init) rfl rfl rfl (B.1.2.2.2.2 _ (in_of qzRX4)) (B.1.2.2.2.2 _ (in_of qlRX8_17)) (B.1.2.2.2.2 _ (in_of qiX4_init)) rfl (by decide +kernel) ⟨Nat.le_of_ble_eq_true rfl, Nat.le_of_ble_eq_true rfl⟩) rfl (Nat.le_of_ble_eq_true rfl) rfl dX8_init_21 ⟨h1, h2⟩ (fun S' hp => ?_)
  exact kk S' hp
theorem bX8_init_24 (B : Bd p s m args meth c cX8_init 2 (wsOf yX8_init cX8_init 2 none) RX8 w none "<init>") {v0 : Nat} {t0 : Nat} {t1 : Nat} {k n : Nat} {Q : State → Prop} (h1 : kd S t0 = 10) (kk : K p l e rX8_init s m args below meth c 2 w k n Q (sP S 577 t0 (some t1)) 29 [(0, .ref v0), (1, .int 0)] []) : K p l e rX8_init s m args below meth c 2 w k n Q S 24 [(0, .ref v0)] [.ref t1, .ref t0] := by
  refine k_putP (f := 577) (v := some t1) B 9 1 rfl (by decide) rfl (by decide) rfl rfl (fun w h => in_of (uw_9 w h)) (in_of qfRX8_20) tyX8 tyX8_ok nmX8 rfl (tyX8_ok 1 (by decide)) rfl rfl dX8_init_24 h1 ?_
  refine k_iconst (v := 0) B (by decide) dX8_init_27 ?_
  refine k_istore_n (lst' := [(1, .int 0), (0, .ref v0)]) B rfl (by decide) rfl dX8_init_28 ?_
  refine k_sub [1, 0] rfl ?_
  exact kk
theorem bX8_init_29 (B : Bd p s m args meth c cX8_init 2 (wsOf yX8_init cX8_init 2 none) RX8 w none "<init>") {v0 : Nat} {v1 : Int32} {k n : Nat} {Q : State → Prop}  (kt : 24 ≤ v1 → K p l e rX8_init s m args below meth c 2 w k n Q S 49 [] []) (kf : ¬ 24 ≤ v1 → K p l e rX8_init s m args below meth c 2 w k n Q S 35 [(0, .ref v0), (1, .int v1)] []) : K p l e rX8_init s m args below meth c 2 w k n Q S 29 [(0, .ref v0), (1, .int v1)] [] := by
  refine k_iload_n B 1 rfl rfl dX8_init_29 ?_
  refine k_bipush (v := 24) B (by decide) dX8_init_30 ?_
  refine k_icmp_ge (tgt := 49) B dX8_init_32 (by decide) (fun c => ?_) (fun c => ?_)
  · refine k_sub [] rfl ?_
    exact kt c
  · exact kf c
theorem bX8_init_35 (B : Bd p s m args meth c cX8_init 2 (wsOf yX8_init cX8_init 2 none) RX8 w none "<init>") {v0 : Nat} {v1 : Int32} {x1 : Nat} {k n : Nat} {Q : State → Prop} (h1 : kd S v0 = 10) (h2 : gP S 576 v0 = some x1) (h3 : kd S x1 = 21) (h4 : vp_in v1 (ln S x1)) (kk : K p l e rX8_init s m args below meth c 2 w k n Q (sRI S x1 (va_up (rI S x1) v1.toNatClampNeg 10)) 29 [(0, .ref v0), (1, .int (v1 + 1))] []) : K p l e rX8_init s m args below meth c 2 w k n Q S 35 [(0, .ref v0), (1, .int v1)] [] := by
  refine k_aload_n B 0 rfl rfl dX8_init_35 ?_
  refine k_getP (f := 576) (r := gP S 576 v0) B 9 0 rfl (by decide) rfl (by decide) rfl rfl (fun w h => in_of (uw_9 w h)) (in_of qfRX8_9) dX8_init_36 h1 rfl ?_
  rw [h2]; change K _ _ _ _ _ _ _ _ _ _ _ _ _ _ _ _ _ _ (.ref x1 :: _)
  refine k_iload_n B 1 rfl rfl dX8_init_39 ?_
  refine k_bipush (v := 10) B (by decide) dX8_init_40 ?_
  refine k_iast (g := rI S x1) (S' := sRI S x1 (va_up (rI S x1) v1.toNatClampNeg 10)) B dX8_init_42 h3 h4 rfl rfl ?_
  refine k_iinc (v := v1 + 1) (lst' := [(1, .int (v1 + 1)), (0, .ref v0)]) B 1 rfl rfl (by decide) rfl dX8_init_43 ?_
  refine k_goto (tgt := 29) B dX8_init_46 (by decide) ?_
  refine k_sub [1, 0] rfl ?_
  exact kk
theorem bX8_init_49 (B : Bd p s m args meth c cX8_init 2 (wsOf yX8_init cX8_init 2 none) RX8 w none "<init>") {post : St → Prop} {k n : Nat}  (hq : post S) : K p l e rX8_init s m args below meth c 2 w k n (MQ below (va_Qv post (fun S' t => Hd w S' t.heap) (wA w)) args s k n (wA w)) S 49 [] [] := by
  exact ret_V B rfl dX8_init_49 (hq)
theorem bX8_minutesOf_0 (B : Bd p s m args meth c cX8_minutesOf 4 (wsOf yX8_minutesOf cX8_minutesOf 4 (some .int)) RX8 w (some .int) "minutesOf") {v0 : Nat} {v1 : Nat} {v2 : Nat} {v3 : Int32} {post : Int32 → St → Prop} {Q : State → Prop} (hc : ConI l yX4_distanceTo (wsOf yX4_distanceTo cX4_distanceTo 4 (some .int)) rX4_distanceTo w S [.ref v1, .ref v2] post) (h1 : kd S v1 = 6) (kk : ∀ (r : Int32) (S' : St), post r S' → K p l e rX8_minutesOf s m args below meth c 4 w 0 0 Q S' 5 [(0, .ref v0), (3, .int v3)] [.int r]) : K p l e rX8_minutesOf s m args below meth c 4 w 0 0 Q S 0 [(0, .ref v0), (1, .ref v1), (2, .ref v2), (3, .int v3)] [] := by
  refine k_aload_n B 1 rfl rfl dX8_minutesOf_0 ?_
  refine k_aload_n B 2 rfl rfl dX8_minutesOf_1 ?_
  refine callV_I (st := []) B [.ref v2] (hc) (cwV 1 B.1.2.2.2.2 (gV qlRX8_24 qiX4_distanceTo qeX4_distanceTo qzRX4 qcX4_distanceTo) rfl rfl rfl (by decide +kernel) ⟨Nat.le_of_ble_eq_true rfl, Nat.le_of_ble_eq_true rfl⟩) rfl rfl (by decide) h1 (Nat.le_of_ble_eq_true rfl) rfl dX8_minutesOf_2 ⟨Nat.le_of_ble_eq_true rfl, Nat.le_of_ble_eq_true rfl⟩ (fun r S' hp => ?_)
  refine k_sub [0, 3] rfl ?_
  exact kk r S' hp
theorem bX8_minutesOf_5 (B : Bd p s m args meth c cX8_minutesOf 4 (wsOf yX8_minutesOf cX8_minutesOf 4 (some .int)) RX8 w (some .int) "minutesOf") {v0 : Nat} {v3 : Int32} {t0 : Int32} {x1 : Nat} {post : Int32 → St → Prop} {Q : State → Prop} (h1 : kd S v0 = 10) (h2 : gP S 576 v0 = some x1) (hc : ConI l yX8_hourOf (wsOf yX8_hourOf cX8_hourOf 1 (some .int)) rX8_hourOf w S [.int v3] post) (kk : ∀ (r : Int32) (S' : St), post r S' → K p l e rX8_minutesOf s m args below meth c 4 w 0 0 Q S' 13 [] [.int r, .ref x1, .int t0]) : K p l e rX8_minutesOf s m args below meth c 4 w 0 0 Q S 5 [(0, .ref v0), (3, .int v3)] [.int t0] := by
  refine k_aload_n B 0 rfl rfl dX8_minutesOf_5 ?_
  refine k_getP (f := 576) (r := gP S 576 v0) B 9 0 rfl (by decide) rfl (by decide) rfl rfl (fun w h => in_of (uw_9 w h)) (in_of qfRX8_9) dX8_minutesOf_6 h1 rfl ?_
  rw [h2]; change K _ _ _ _ _ _ _ _ _ _ _ _ _ _ _ _ _ _ (.ref x1 :: _)
  refine k_iload_n B 1 rfl rfl dX8_minutesOf_9 ?_
  refine callS_I (st := [.ref x1, .int t0]) B [.int v3] (hc) (va_cwS 1 B.1.2.2.2.2 (gS qlRX8_28 qsX8_hourOf qzRX8 qcX8_hourOf) rfl rfl rfl (by decide +kernel) ⟨Nat.le_of_ble_eq_true rfl, Nat.le_of_ble_eq_true rfl⟩) rfl (Nat.le_of_ble_eq_true rfl) rfl dX8_minutesOf_10 ⟨Nat.le_of_ble_eq_true rfl, Nat.le_of_ble_eq_true rfl⟩ (fun r S' hp => ?_)
  refine k_sub [] rfl ?_
  exact kk r S' hp
theorem bX8_minutesOf_13 (B : Bd p s m args meth c cX8_minutesOf 4 (wsOf yX8_minutesOf cX8_minutesOf 4 (some .int)) RX8 w (some .int) "minutesOf") {t0 : Int32} {t1 : Nat} {t2 : Int32} {post : Int32 → St → Prop} (h1 : kd S t1 = 21) (h2 : vp_in t2 (ln S t1)) (hq : post (((t0 * ((rI S t1) t2.toNatClampNeg)) + 9) / 10) S) : K p l e rX8_minutesOf s m args below meth c 4 w 0 0 (MQ below (va_Qi post (fun S' t => Hd w S' t.heap) (wA w)) args s 0 0 (wA w)) S 13 [] [.int t2, .ref t1, .int t0] := by
  refine k_iald (v := (rI S t1) t2.toNatClampNeg) B dX8_minutesOf_13 h1 h2 rfl ?_
  refine k_imul B dX8_minutesOf_14 ?_
  refine k_bipush (v := 9) B (by decide) dX8_minutesOf_15 ?_
  refine k_iadd B dX8_minutesOf_17 ?_
  refine k_bipush (v := 10) B (by decide) dX8_minutesOf_18 ?_
  refine k_idiv B (by decide) dX8_minutesOf_20 ?_
  exact ret_I B rfl dX8_minutesOf_21 (hq)
theorem bX8_hourOf_0 (B : Bd p s m args meth c cX8_hourOf 1 (wsOf yX8_hourOf cX8_hourOf 1 (some .int)) RX8 w (some .int) "hourOf") {v0 : Int32} {post : Int32 → St → Prop}  (hq : post ((v0 / 60) - (v0 / 60) / 24 * 24) S) : K p l e rX8_hourOf s m args below meth c 1 w 0 0 (MQ below (va_Qi post (fun S' t => Hd w S' t.heap) (wA w)) args s 0 0 (wA w)) S 0 [(0, .int v0)] [] := by
  refine k_iload_n B 0 rfl rfl dX8_hourOf_0 ?_
  refine k_bipush (v := 60) B (by decide) dX8_hourOf_1 ?_
  refine k_idiv B (by decide) dX8_hourOf_3 ?_
  refine k_bipush (v := 24) B (by decide) dX8_hourOf_4 ?_
  refine k_irem B (by decide) dX8_hourOf_6 ?_
  exact ret_I B rfl dX8_hourOf_7 (hq)
theorem bX9_init_0 (B : Bd p s m args meth c cX9_init 2 (wsOf yX9_init cX9_init 2 none) RX9 w none "<init>") {v0 : Nat} {v1 : Nat} {x1 : Nat} {post : St → Prop} (h1 : kd S v0 = 11) (h2 : kd S v1 = 10) (h3 : gP S 577 v1 = some x1) (hq : post (sP (sP (sI (sI (sI (sI S 642 v0 0) 643 v0 0) 644 v0 0) 645 v0 0) 640 v0 (some v1)) 641 v0 (some x1))) : K p l e rX9_init s m args below meth c 2 w 0 0 (MQ below (va_Qv post (fun S' t => Hd w S' t.heap) (wA w)) args s 0 0 (wA w)) S 0 [(0, .ref v0), (1, .ref v1)] [] := by
  refine k_aload_n B 0 rfl rfl dX9_init_0 ?_
  refine k_objInit B (in_of qlRX9_3) (in_of qi_obj) (in_of qc_obj) (Nat.le_of_ble_eq_true rfl) (Nat.le_of_ble_eq_true rfl) dX9_init_1 ?_
  refine k_aload_n B 0 rfl rfl dX9_init_4 ?_
  refine k_iconst (v := 0) B (by decide) dX9_init_5 ?_
  refine k_putI (f := 642) B 10 2 rfl (by decide) rfl (by decide) rfl rfl (fun w h => in_of (uw_10 w h)) (in_of qfRX9_9) tyX9 tyX9_ok nmX9 rfl (tyX9_ok 2 (by decide)) dX9_init_6 h1 ?_
  refine k_aload_n B 0 rfl rfl dX9_init_9 ?_
  refine k_iconst (v := 0) B (by decide) dX9_init_10 ?_
  refine k_putI (f := 643) B 10 3 rfl (by decide) rfl (by decide) rfl rfl (fun w h => in_of (uw_10 w h)) (in_of qfRX9_15) tyX9 tyX9_ok nmX9 rfl (tyX9_ok 3 (by decide)) dX9_init_11 h1 ?_
  refine k_aload_n B 0 rfl rfl dX9_init_14 ?_
  refine k_iconst (v := 0) B (by decide) dX9_init_15 ?_
  refine k_putI (f := 644) B 10 4 rfl (by decide) rfl (by decide) rfl rfl (fun w h => in_of (uw_10 w h)) (in_of qfRX9_18) tyX9 tyX9_ok nmX9 rfl (tyX9_ok 4 (by decide)) dX9_init_16 h1 ?_
  refine k_aload_n B 0 rfl rfl dX9_init_19 ?_
  refine k_iconst (v := 0) B (by decide) dX9_init_20 ?_
  refine k_putI (f := 645) B 10 5 rfl (by decide) rfl (by decide) rfl rfl (fun w h => in_of (uw_10 w h)) (in_of qfRX9_21) tyX9 tyX9_ok nmX9 rfl (tyX9_ok 5 (by decide)) dX9_init_21 h1 ?_
  refine k_aload_n B 0 rfl rfl dX9_init_24 ?_
  refine k_aload_n B 1 rfl rfl dX9_init_25 ?_
  refine k_putPF (f := 640) (v := some v1) B 10 0 rfl (by decide) rfl (by decide) rfl rfl (fun w h => in_of (uw_10 w h)) (in_of qfRX9_24) tyX9 tyX9_ok nmX9 rfl rfl rfl (tyX9_ok 0 (by decide)) rfl rfl dX9_init_26 h1 ?_
  refine k_aload_n B 0 rfl rfl dX9_init_29 ?_
  refine k_aload_n B 1 rfl rfl dX9_init_30 ?_
  refine k_getP (f := 577) (r := gP S 577 v1) B 9 1 rfl (by decide) rfl (by decide) rfl rfl (fun w h => in_of (uw_9 w h)) (in_of qfRX9_28) dX9_init_31 h2 rfl ?_
  rw [h3]; change K _ _ _ _ _ _ _ _ _ _ _ _ _ _ _ _ _ _ (.ref x1 :: _)
  refine k_putP (f := 641) (v := some x1) B 10 1 rfl (by decide) rfl (by decide) rfl rfl (fun w h => in_of (uw_10 w h)) (in_of qfRX9_34) tyX9 tyX9_ok nmX9 rfl (tyX9_ok 1 (by decide)) rfl rfl dX9_init_34 h1 ?_
  exact ret_V B rfl dX9_init_37 (hq)
theorem bX9_begin_0 (B : Bd p s m args meth c cX9_begin 2 (wsOf yX9_begin cX9_begin 2 none) RX9 w none "begin") {v0 : Nat} {v1 : Int32} {x1 : Nat} {x2 : Nat} {post : St → Prop} (h1 : kd S v0 = 11) (h2 : gP S 640 v0 = some x1) (h3 : kd S x1 = 10) (h4 : gP S 577 x1 = some x2) (hq : post (sI (sI (sI (sI (sP S 641 v0 (some x2)) 642 v0 v1) 643 v0 v1) 644 v0 0) 645 v0 0)) : K p l e rX9_begin s m args below meth c 2 w 0 0 (MQ below (va_Qv post (fun S' t => Hd w S' t.heap) (wA w)) args s 0 0 (wA w)) S 0 [(0, .ref v0), (1, .int v1)] [] := by
  refine k_aload_n B 0 rfl rfl dX9_begin_0 ?_
  refine k_aload_n B 0 rfl rfl dX9_begin_1 ?_
  refine k_getP (f := 640) (r := gP S 640 v0) B 10 0 rfl (by decide) rfl (by decide) rfl rfl (fun w h => in_of (uw_10 w h)) (in_of qfRX9_24) dX9_begin_2 h1 rfl ?_
  rw [h2]; change K _ _ _ _ _ _ _ _ _ _ _ _ _ _ _ _ _ _ (.ref x1 :: _)
  refine k_getP (f := 577) (r := gP S 577 x1) B 9 1 rfl (by decide) rfl (by decide) rfl rfl (fun w h => in_of (uw_9 w h)) (in_of qfRX9_28) dX9_begin_5 h3 rfl ?_
  rw [h4]; change K _ _ _ _ _ _ _ _ _ _ _ _ _ _ _ _ _ _ (.ref x2 :: _)
  refine k_putP (f := 641) (v := some x2) B 10 1 rfl (by decide) rfl (by decide) rfl rfl (fun w h => in_of (uw_10 w h)) (in_of qfRX9_34) tyX9 tyX9_ok nmX9 rfl (tyX9_ok 1 (by decide)) rfl rfl dX9_begin_8 h1 ?_
  refine k_aload_n B 0 rfl rfl dX9_begin_11 ?_
  refine k_iload_n B 1 rfl rfl dX9_begin_12 ?_
  refine k_putI (f := 642) B 10 2 rfl (by decide) rfl (by decide) rfl rfl (fun w h => in_of (uw_10 w h)) (in_of qfRX9_9) tyX9 tyX9_ok nmX9 rfl (tyX9_ok 2 (by decide)) dX9_begin_13 h1 ?_
  refine k_aload_n B 0 rfl rfl dX9_begin_16 ?_
  refine k_iload_n B 1 rfl rfl dX9_begin_17 ?_
  refine k_putI (f := 643) B 10 3 rfl (by decide) rfl (by decide) rfl rfl (fun w h => in_of (uw_10 w h)) (in_of qfRX9_15) tyX9 tyX9_ok nmX9 rfl (tyX9_ok 3 (by decide)) dX9_begin_18 h1 ?_
  refine k_aload_n B 0 rfl rfl dX9_begin_21 ?_
  refine k_iconst (v := 0) B (by decide) dX9_begin_22 ?_
  refine k_putI (f := 644) B 10 4 rfl (by decide) rfl (by decide) rfl rfl (fun w h => in_of (uw_10 w h)) (in_of qfRX9_18) tyX9 tyX9_ok nmX9 rfl (tyX9_ok 4 (by decide)) dX9_begin_23 h1 ?_
  refine k_aload_n B 0 rfl rfl dX9_begin_26 ?_
  refine k_iconst (v := 0) B (by decide) dX9_begin_27 ?_
  refine k_putI (f := 645) B 10 5 rfl (by decide) rfl (by decide) rfl rfl (fun w h => in_of (uw_10 w h)) (in_of qfRX9_21) tyX9 tyX9_ok nmX9 rfl (tyX9_ok 5 (by decide)) dX9_begin_28 h1 ?_
  exact ret_V B rfl dX9_begin_31 (hq)
theorem bX9_goWithBreak_0 (B : Bd p s m args meth c cX9_goWithBreak 3 (wsOf yX9_goWithBreak cX9_goWithBreak 3 none) RX9 w none "goWithBreak") {v0 : Nat} {v1 : Nat} {x1 : Nat} {x2 : Nat} {post : Int32 → St → Prop} {Q : State → Prop} (h1 : kd S v0 = 11) (h2 : gP S 640 v0 = some x1) (h3 : gP S 641 v0 = some x2) (hc : ConI l yX8_minutesOf (wsOf yX8_minutesOf cX8_minutesOf 4 (some .int)) rX8_minutesOf w S [.ref x1, .ref x2, .ref v1, .int (gI S 643 v0)] post) (h4 : kd S x1 = 10) (kk : ∀ (r : Int32) (S' : St), post r S' → K p l e rX9_goWithBreak s m args below meth c 3 w 0 0 Q S' 16 [(0, .ref v0), (1, .ref v1)] [.int r]) : K p l e rX9_goWithBreak s m args below meth c 3 w 0 0 Q S 0 [(0, .ref v0), (1, .ref v1)] [] := by
  refine k_aload_n B 0 rfl rfl dX9_goWithBreak_0 ?_
  refine k_getP (f := 640) (r := gP S 640 v0) B 10 0 rfl (by decide) rfl (by decide) rfl rfl (fun w h => in_of (uw_10 w h)) (in_of qfRX9_24) dX9_goWithBreak_1 h1 rfl ?_
  rw [h2]; change K _ _ _ _ _ _ _ _ _ _ _ _ _ _ _ _ _ _ (.ref x1 :: _)
  refine k_aload_n B 0 rfl rfl dX9_goWithBreak_4 ?_
  refine k_getP (f := 641) (r := gP S 641 v0) B 10 1 rfl (by decide) rfl (by decide) rfl rfl (fun w h => in_of (uw_10 w h)) (in_of qfRX9_34) dX9_goWithBreak_5 h1 rfl ?_
  rw [h3]; change K _ _ _ _ _ _ _ _ _ _ _ _ _ _ _ _ _ _ (.ref x2 :: _)
  refine k_aload_n B 1 rfl rfl dX9_goWithBreak_8 ?_
  refine k_aload_n B 0 rfl rfl dX9_goWithBreak_9 ?_
  refine k_getI (f := 643) (v := gI S 643 v0) B 10 3 rfl (by decide) rfl (by decide) rfl rfl (fun w h => in_of (uw_10 w h)) (in_of qfRX9_15) dX9_goWithBreak_10 h1 rfl ?_
  refine callV_I (st := []) B [.ref x2, .ref v1, .int (gI S 643 v0)] (hc) (cwV 3 B.1.2.2.2.2 (gV qlRX9_37 qiX8_minutesOf qeX8_minutesOf qzRX8 qcX8_minutesOf) rfl rfl rfl (by decide +kernel) ⟨Nat.le_of_ble_eq_true rfl, Nat.le_of_ble_eq_true rfl⟩) rfl rfl (by decide) h4 (Nat.le_of_ble_eq_true rfl) rfl dX9_goWithBreak_13 ⟨Nat.le_of_ble_eq_true rfl, Nat.le_of_ble_eq_true rfl⟩ (fun r S' hp => ?_)
  exact kk r S' hp
theorem bX9_goWithBreak_16 (B : Bd p s m args meth c cX9_goWithBreak 3 (wsOf yX9_goWithBreak cX9_goWithBreak 3 none) RX9 w none "goWithBreak") {v0 : Nat} {v1 : Nat} {t0 : Int32} {Q : State → Prop} (h1 : kd S v0 = 11) (kt : (((gI S 643 v0) - (gI S 642 v0)) + t0) ≤ 240 → K p l e rX9_goWithBreak s m args below meth c 3 w 0 0 Q S 80 [(0, .ref v0), (1, .ref v1), (2, .int t0)] []) (kf : ¬ (((gI S 643 v0) - (gI S 642 v0)) + t0) ≤ 240 → K p l e rX9_goWithBreak s m args below meth c 3 w 0 0 Q S 34 [(0, .ref v0), (1, .ref v1)] []) : K p l e rX9_goWithBreak s m args below meth c 3 w 0 0 Q S 16 [(0, .ref v0), (1, .ref v1)] [.int t0] := by
  refine k_istore_n (lst' := [(2, .int t0), (0, .ref v0), (1, .ref v1)]) B rfl (by decide) rfl dX9_goWithBreak_16 ?_
  refine k_aload_n B 1 rfl rfl dX9_goWithBreak_17 ?_
  refine k_getI (f := 643) (v := gI S 643 v0) B 10 3 rfl (by decide) rfl (by decide) rfl rfl (fun w h => in_of (uw_10 w h)) (in_of qfRX9_15) dX9_goWithBreak_18 h1 rfl ?_
  refine k_aload_n B 1 rfl rfl dX9_goWithBreak_21 ?_
  refine k_getI (f := 642) (v := gI S 642 v0) B 10 2 rfl (by decide) rfl (by decide) rfl rfl (fun w h => in_of (uw_10 w h)) (in_of qfRX9_9) dX9_goWithBreak_22 h1 rfl ?_
  refine k_isub B dX9_goWithBreak_25 ?_
  refine k_iload_n B 0 rfl rfl dX9_goWithBreak_26 ?_
  refine k_iadd B dX9_goWithBreak_27 ?_
  refine k_sipush (v := 240) B (by decide) dX9_goWithBreak_28 ?_
  refine k_icmp_le (tgt := 80) B dX9_goWithBreak_31 (by decide) (fun c => ?_) (fun c => ?_)
  · refine k_sub [1, 2, 0] rfl ?_
    exact kt c
  · refine k_sub [1, 2] rfl ?_
    exact kf c
theorem bX9_goWithBreak_34 (B : Bd p s m args meth c cX9_goWithBreak 3 (wsOf yX9_goWithBreak cX9_goWithBreak 3 none) RX9 w none "goWithBreak") {v0 : Nat} {v1 : Nat} {x1 : Nat} {x2 : Nat} {post : Int32 → St → Prop} {Q : State → Prop} (h1 : kd S v0 = 11) (h2 : gP S 640 v0 = some x1) (h3 : gP S 641 v0 = some x2) (hc : ConI l yX8_minutesOf (wsOf yX8_minutesOf cX8_minutesOf 4 (some .int)) rX8_minutesOf w (sI (sI (sI S 643 v0 ((gI S 643 v0) + 30)) 642 v0 ((gI S 643 v0) + 30)) 645 v0 ((gI S 645 v0) + 1)) [.ref x1, .ref x2, .ref v1, .int ((gI S 643 v0) + 30)] post) (h4 : kd S x1 = 10) (kk : ∀ (r : Int32) (S' : St), post r S' → K p l e rX9_goWithBreak s m args below meth c 3 w 0 0 Q S' 79 [(0, .ref v0), (1, .ref v1)] [.int r]) : K p l e rX9_goWithBreak s m args below meth c 3 w 0 0 Q S 34 [(0, .ref v0), (1, .ref v1)] [] := by
  refine k_aload_n B 0 rfl rfl dX9_goWithBreak_34 ?_
  refine k_dup B rfl dX9_goWithBreak_35 ?_
  refine k_getI (f := 643) (v := gI S 643 v0) B 10 3 rfl (by decide) rfl (by decide) rfl rfl (fun w h => in_of (uw_10 w h)) (in_of qfRX9_15) dX9_goWithBreak_36 h1 rfl ?_
  refine k_bipush (v := 30) B (by decide) dX9_goWithBreak_39 ?_
  refine k_iadd B dX9_goWithBreak_41 ?_
  refine k_putI (f := 643) B 10 3 rfl (by decide) rfl (by decide) rfl rfl (fun w h => in_of (uw_10 w h)) (in_of qfRX9_15) tyX9 tyX9_ok nmX9 rfl (tyX9_ok 3 (by decide)) dX9_goWithBreak_42 h1 ?_
  refine k_aload_n B 0 rfl rfl dX9_goWithBreak_45 ?_
  refine k_aload_n B 0 rfl rfl dX9_goWithBreak_46 ?_
  refine k_getI (f := 643) (v := (gI S 643 v0) + 30) B 10 3 rfl (by decide) rfl (by decide) rfl rfl (fun w h => in_of (uw_10 w h)) (in_of qfRX9_15) dX9_goWithBreak_47 h1 (by simp [kd_sI, kd_sP, kd_sRI, kd_sRP, kd_nw, gI_sI, gI_sP, gI_sRI, gI_sRP, gI_nw, gP_sI, gP_sP, gP_sRI, gP_sRP, gP_nw, ln_sI, ln_sP, ln_sRI, ln_sRP, ln_nw, rI_sI, rI_sP, rI_sRI, rI_sRP, rI_nw, rP_sI, rP_sP, rP_sRI, rP_sRP, rP_nw, va_up_self]) ?_
  refine k_putI (f := 642) B 10 2 rfl (by decide) rfl (by decide) rfl rfl (fun w h => in_of (uw_10 w h)) (in_of qfRX9_9) tyX9 tyX9_ok nmX9 rfl (tyX9_ok 2 (by decide)) dX9_goWithBreak_50 h1 ?_
  refine k_aload_n B 0 rfl rfl dX9_goWithBreak_53 ?_
  refine k_dup B rfl dX9_goWithBreak_54 ?_
  refine k_getI (f := 645) (v := gI S 645 v0) B 10 5 rfl (by decide) rfl (by decide) rfl rfl (fun w h => in_of (uw_10 w h)) (in_of qfRX9_21) dX9_goWithBreak_55 h1 rfl ?_
  refine k_iconst (v := 1) B (by decide) dX9_goWithBreak_58 ?_
  refine k_iadd B dX9_goWithBreak_59 ?_
  refine k_putI (f := 645) B 10 5 rfl (by decide) rfl (by decide) rfl rfl (fun w h => in_of (uw_10 w h)) (in_of qfRX9_21) tyX9 tyX9_ok nmX9 rfl (tyX9_ok 5 (by decide)) dX9_goWithBreak_60 h1 ?_
  refine k_aload_n B 0 rfl rfl dX9_goWithBreak_63 ?_
  refine k_getP (f := 640) (r := gP S 640 v0) B 10 0 rfl (by decide) rfl (by decide) rfl rfl (fun w h => in_of (uw_10 w h)) (in_of qfRX9_24) dX9_goWithBreak_64 h1 rfl ?_
  rw [h2]; change K _ _ _ _ _ _ _ _ _ _ _ _ _ _ _ _ _ _ (.ref x1 :: _)
  refine k_aload_n B 0 rfl rfl dX9_goWithBreak_67 ?_
  refine k_getP (f := 641) (r := gP S 641 v0) B 10 1 rfl (by decide) rfl (by decide) rfl rfl (fun w h => in_of (uw_10 w h)) (in_of qfRX9_34) dX9_goWithBreak_68 h1 rfl ?_
  rw [h3]; change K _ _ _ _ _ _ _ _ _ _ _ _ _ _ _ _ _ _ (.ref x2 :: _)
  refine k_aload_n B 1 rfl rfl dX9_goWithBreak_71 ?_
  refine k_aload_n B 0 rfl rfl dX9_goWithBreak_72 ?_
  refine k_getI (f := 643) (v := (gI S 643 v0) + 30) B 10 3 rfl (by decide) rfl (by decide) rfl rfl (fun w h => in_of (uw_10 w h)) (in_of qfRX9_15) dX9_goWithBreak_73 h1 (by simp [kd_sI, kd_sP, kd_sRI, kd_sRP, kd_nw, gI_sI, gI_sP, gI_sRI, gI_sRP, gI_nw, gP_sI, gP_sP, gP_sRI, gP_sRP, gP_nw, ln_sI, ln_sP, ln_sRI, ln_sRP, ln_nw, rI_sI, rI_sP, rI_sRI, rI_sRP, rI_nw, rP_sI, rP_sP, rP_sRI, rP_sRP, rP_nw, va_up_self]) ?_
  refine callV_I (st := []) B [.ref x2, .ref v1, .int ((gI S 643 v0) + 30)] (hc) (cwV 3 B.1.2.2.2.2 (gV qlRX9_37 qiX8_minutesOf qeX8_minutesOf qzRX8 qcX8_minutesOf) rfl rfl rfl (by decide +kernel) ⟨Nat.le_of_ble_eq_true rfl, Nat.le_of_ble_eq_true rfl⟩) rfl rfl (by decide) h4 (Nat.le_of_ble_eq_true rfl) rfl dX9_goWithBreak_76 ⟨Nat.le_of_ble_eq_true rfl, Nat.le_of_ble_eq_true rfl⟩ (fun r S' hp => ?_)
  exact kk r S' hp
theorem bX9_goWithBreak_79 (B : Bd p s m args meth c cX9_goWithBreak 3 (wsOf yX9_goWithBreak cX9_goWithBreak 3 none) RX9 w none "goWithBreak") {v0 : Nat} {v1 : Nat} {t0 : Int32} {Q : State → Prop}  (kk : K p l e rX9_goWithBreak s m args below meth c 3 w 0 0 Q S 80 [(0, .ref v0), (1, .ref v1), (2, .int t0)] []) : K p l e rX9_goWithBreak s m args below meth c 3 w 0 0 Q S 79 [(0, .ref v0), (1, .ref v1)] [.int t0] := by
  refine k_istore_n (lst' := [(2, .int t0), (0, .ref v0), (1, .ref v1)]) B rfl (by decide) rfl dX9_goWithBreak_79 ?_
  refine k_sub [1, 2, 0] rfl ?_
  exact kk
theorem bX9_goWithBreak_80 (B : Bd p s m args meth c cX9_goWithBreak 3 (wsOf yX9_goWithBreak cX9_goWithBreak 3 none) RX9 w none "goWithBreak") {v0 : Nat} {v1 : Nat} {v2 : Int32} {post : St → Prop} {Q : State → Prop} (hc : ConV l yX9_arrive (wsOf yX9_arrive cX9_arrive 3 none) rX9_arrive w S [.ref v0, .ref v1, .int v2] post) (h1 : kd S v0 = 11) (kk : ∀ (S' : St), post S' → K p l e rX9_goWithBreak s m args below meth c 3 w 0 0 Q S' 86 [] []) : K p l e rX9_goWithBreak s m args below meth c 3 w 0 0 Q S 80 [(0, .ref v0), (1, .ref v1), (2, .int v2)] [] := by
  refine k_aload_n B 0 rfl rfl dX9_goWithBreak_80 ?_
  refine k_aload_n B 1 rfl rfl dX9_goWithBreak_81 ?_
  refine k_iload_n B 2 rfl rfl dX9_goWithBreak_82 ?_
  refine callV_V (st := []) B [.ref v1, .int v2] (hc) (cwV 2 B.1.2.2.2.2 (gV qlRX9_41 qiX9_arrive qeX9_arrive qzRX9 qcX9_arrive) rfl rfl rfl (by decide +kernel) ⟨Nat.le_of_ble_eq_true rfl, Nat.le_of_ble_eq_true rfl⟩) rfl rfl (by decide) h1 (Nat.le_of_ble_eq_true rfl) rfl dX9_goWithBreak_83 ⟨Nat.le_of_ble_eq_true rfl, Nat.le_of_ble_eq_true rfl⟩ (fun S' hp => ?_)
  refine k_sub [] rfl ?_
  exact kk S' hp
theorem bX9_goWithBreak_86 (B : Bd p s m args meth c cX9_goWithBreak 3 (wsOf yX9_goWithBreak cX9_goWithBreak 3 none) RX9 w none "goWithBreak") {post : St → Prop}  (hq : post S) : K p l e rX9_goWithBreak s m args below meth c 3 w 0 0 (MQ below (va_Qv post (fun S' t => Hd w S' t.heap) (wA w)) args s 0 0 (wA w)) S 86 [] [] := by
  exact ret_V B rfl dX9_goWithBreak_86 (hq)
theorem bX9_goStraight_0 (B : Bd p s m args meth c cX9_goStraight 2 (wsOf yX9_goStraight cX9_goStraight 2 none) RX9 w none "goStraight") {v0 : Nat} {v1 : Nat} {x1 : Nat} {x2 : Nat} {post : Int32 → St → Prop} {Q : State → Prop} (h1 : kd S v0 = 11) (h2 : gP S 640 v0 = some x1) (h3 : gP S 641 v0 = some x2) (hc : ConI l yX8_minutesOf (wsOf yX8_minutesOf cX8_minutesOf 4 (some .int)) rX8_minutesOf w S [.ref x1, .ref x2, .ref v1, .int (gI S 643 v0)] post) (h4 : kd S x1 = 10) (kk : ∀ (r : Int32) (S' : St), post r S' → K p l e rX9_goStraight s m args below meth c 2 w 0 0 Q S' 18 [] [.int r, .ref v1, .ref v0]) : K p l e rX9_goStraight s m args below meth c 2 w 0 0 Q S 0 [(0, .ref v0), (1, .ref v1)] [] := by
  refine k_aload_n B 0 rfl rfl dX9_goStraight_0 ?_
  refine k_aload_n B 1 rfl rfl dX9_goStraight_1 ?_
  refine k_aload_n B 0 rfl rfl dX9_goStraight_2 ?_
  refine k_getP (f := 640) (r := gP S 640 v0) B 10 0 rfl (by decide) rfl (by decide) rfl rfl (fun w h => in_of (uw_10 w h)) (in_of qfRX9_24) dX9_goStraight_3 h1 rfl ?_
  rw [h2]; change K _ _ _ _ _ _ _ _ _ _ _ _ _ _ _ _ _ _ (.ref x1 :: _)
  refine k_aload_n B 0 rfl rfl dX9_goStraight_6 ?_
  refine k_getP (f := 641) (r := gP S 641 v0) B 10 1 rfl (by decide) rfl (by decide) rfl rfl (fun w h => in_of (uw_10 w h)) (in_of qfRX9_34) dX9_goStraight_7 h1 rfl ?_
  rw [h3]; change K _ _ _ _ _ _ _ _ _ _ _ _ _ _ _ _ _ _ (.ref x2 :: _)
  refine k_aload_n B 1 rfl rfl dX9_goStraight_10 ?_
  refine k_aload_n B 0 rfl rfl dX9_goStraight_11 ?_
  refine k_getI (f := 643) (v := gI S 643 v0) B 10 3 rfl (by decide) rfl (by decide) rfl rfl (fun w h => in_of (uw_10 w h)) (in_of qfRX9_15) dX9_goStraight_12 h1 rfl ?_
  refine callV_I (st := [.ref v1, .ref v0]) B [.ref x2, .ref v1, .int (gI S 643 v0)] (hc) (cwV 3 B.1.2.2.2.2 (gV qlRX9_37 qiX8_minutesOf qeX8_minutesOf qzRX8 qcX8_minutesOf) rfl rfl rfl (by decide +kernel) ⟨Nat.le_of_ble_eq_true rfl, Nat.le_of_ble_eq_true rfl⟩) rfl rfl (by decide) h4 (Nat.le_of_ble_eq_true rfl) rfl dX9_goStraight_15 ⟨Nat.le_of_ble_eq_true rfl, Nat.le_of_ble_eq_true rfl⟩ (fun r S' hp => ?_)
  refine k_sub [] rfl ?_
  exact kk r S' hp
theorem bX9_goStraight_18 (B : Bd p s m args meth c cX9_goStraight 2 (wsOf yX9_goStraight cX9_goStraight 2 none) RX9 w none "goStraight") {t0 : Nat} {t1 : Nat} {t2 : Int32} {post : St → Prop} {Q : State → Prop} (hc : ConV l yX9_arrive (wsOf yX9_arrive cX9_arrive 3 none) rX9_arrive w S [.ref t0, .ref t1, .int t2] post) (h1 : kd S t0 = 11) (kk : ∀ (S' : St), post S' → K p l e rX9_goStraight s m args below meth c 2 w 0 0 Q S' 21 [] []) : K p l e rX9_goStraight s m args below meth c 2 w 0 0 Q S 18 [] [.int t2, .ref t1, .ref t0] := by
  refine callV_V (st := []) B [.ref t1, .int t2] (hc) (cwV 2 B.1.2.2.2.2 (gV qlRX9_41 qiX9_arrive qeX9_arrive qzRX9 qcX9_arrive) rfl rfl rfl (by decide +kernel) ⟨Nat.le_of_ble_eq_true rfl, Nat.le_of_ble_eq_true rfl⟩) rfl rfl (by decide) h1 (Nat.le_of_ble_eq_true rfl) rfl dX9_goStraight_18 ⟨Nat.le_of_ble_eq_true rfl, Nat.le_of_ble_eq_true rfl⟩ (fun S' hp => ?_)
  exact kk S' hp
theorem bX9_goStraight_21 (B : Bd p s m args meth c cX9_goStraight 2 (wsOf yX9_goStraight cX9_goStraight 2 none) RX9 w none "goStraight") {post : St → Prop}  (hq : post S) : K p l e rX9_goStraight s m args below meth c 2 w 0 0 (MQ below (va_Qv post (fun S' t => Hd w S' t.heap) (wA w)) args s 0 0 (wA w)) S 21 [] [] := by
  exact ret_V B rfl dX9_goStraight_21 (hq)
theorem bX9_arrive_0 (B : Bd p s m args meth c cX9_arrive 3 (wsOf yX9_arrive cX9_arrive 3 none) RX9 w none "arrive") {v0 : Nat} {v1 : Nat} {v2 : Int32} {post : St → Prop} (h1 : kd S v0 = 11) (hq : post (sP (sI (sI S 644 v0 ((gI S 644 v0) + v2)) 643 v0 ((gI S 643 v0) + v2)) 641 v0 (some v1))) : K p l e rX9_arrive s m args below meth c 3 w 0 0 (MQ below (va_Qv post (fun S' t => Hd w S' t.heap) (wA w)) args s 0 0 (wA w)) S 0 [(0, .ref v0), (1, .ref v1), (2, .int v2)] [] := by
  refine k_aload_n B 0 rfl rfl dX9_arrive_0 ?_
  refine k_dup B rfl dX9_arrive_1 ?_
  refine k_getI (f := 644) (v := gI S 644 v0) B 10 4 rfl (by decide) rfl (by decide) rfl rfl (fun w h => in_of (uw_10 w h)) (in_of qfRX9_18) dX9_arrive_2 h1 rfl ?_
  refine k_iload_n B 2 rfl rfl dX9_arrive_5 ?_
  refine k_iadd B dX9_arrive_6 ?_
  refine k_putI (f := 644) B 10 4 rfl (by decide) rfl (by decide) rfl rfl (fun w h => in_of (uw_10 w h)) (in_of qfRX9_18) tyX9 tyX9_ok nmX9 rfl (tyX9_ok 4 (by decide)) dX9_arrive_7 h1 ?_
  refine k_aload_n B 0 rfl rfl dX9_arrive_10 ?_
  refine k_dup B rfl dX9_arrive_11 ?_
  refine k_getI (f := 643) (v := gI S 643 v0) B 10 3 rfl (by decide) rfl (by decide) rfl rfl (fun w h => in_of (uw_10 w h)) (in_of qfRX9_15) dX9_arrive_12 h1 rfl ?_
  refine k_iload_n B 2 rfl rfl dX9_arrive_15 ?_
  refine k_iadd B dX9_arrive_16 ?_
  refine k_putI (f := 643) B 10 3 rfl (by decide) rfl (by decide) rfl rfl (fun w h => in_of (uw_10 w h)) (in_of qfRX9_15) tyX9 tyX9_ok nmX9 rfl (tyX9_ok 3 (by decide)) dX9_arrive_17 h1 ?_
  refine k_aload_n B 0 rfl rfl dX9_arrive_20 ?_
  refine k_aload_n B 1 rfl rfl dX9_arrive_21 ?_
  refine k_putP (f := 641) (v := some v1) B 10 1 rfl (by decide) rfl (by decide) rfl rfl (fun w h => in_of (uw_10 w h)) (in_of qfRX9_34) tyX9 tyX9_ok nmX9 rfl (tyX9_ok 1 (by decide)) rfl rfl dX9_arrive_22 h1 ?_
  exact ret_V B rfl dX9_arrive_25 (hq)
theorem bX9_waitTill_0 (B : Bd p s m args meth c cX9_waitTill 2 (wsOf yX9_waitTill cX9_waitTill 2 none) RX9 w none "waitTill") {v0 : Nat} {v1 : Int32} {Q : State → Prop} (h1 : kd S v0 = 11) (kt : v1 ≤ (gI S 643 v0) → K p l e rX9_waitTill s m args below meth c 2 w 0 0 Q S 13 [] []) (kf : ¬ v1 ≤ (gI S 643 v0) → K p l e rX9_waitTill s m args below meth c 2 w 0 0 Q S 8 [(0, .ref v0), (1, .int v1)] []) : K p l e rX9_waitTill s m args below meth c 2 w 0 0 Q S 0 [(0, .ref v0), (1, .int v1)] [] := by
  refine k_aload_n B 0 rfl rfl dX9_waitTill_0 ?_
  refine k_getI (f := 643) (v := gI S 643 v0) B 10 3 rfl (by decide) rfl (by decide) rfl rfl (fun w h => in_of (uw_10 w h)) (in_of qfRX9_15) dX9_waitTill_1 h1 rfl ?_
  refine k_iload_n B 1 rfl rfl dX9_waitTill_4 ?_
  refine k_icmp_ge (tgt := 13) B dX9_waitTill_5 (by decide) (fun c => ?_) (fun c => ?_)
  · refine k_sub [] rfl ?_
    exact kt c
  · exact kf c
theorem bX9_waitTill_8 (B : Bd p s m args meth c cX9_waitTill 2 (wsOf yX9_waitTill cX9_waitTill 2 none) RX9 w none "waitTill") {v0 : Nat} {v1 : Int32} {Q : State → Prop} (h1 : kd S v0 = 11) (kk : K p l e rX9_waitTill s m args below meth c 2 w 0 0 Q (sI S 643 v0 v1) 13 [] []) : K p l e rX9_waitTill s m args below meth c 2 w 0 0 Q S 8 [(0, .ref v0), (1, .int v1)] [] := by
  refine k_aload_n B 0 rfl rfl dX9_waitTill_8 ?_
  refine k_iload_n B 1 rfl rfl dX9_waitTill_9 ?_
  refine k_putI (f := 643) B 10 3 rfl (by decide) rfl (by decide) rfl rfl (fun w h => in_of (uw_10 w h)) (in_of qfRX9_15) tyX9 tyX9_ok nmX9 rfl (tyX9_ok 3 (by decide)) dX9_waitTill_10 h1 ?_
  refine k_sub [] rfl ?_
  exact kk
theorem bX9_waitTill_13 (B : Bd p s m args meth c cX9_waitTill 2 (wsOf yX9_waitTill cX9_waitTill 2 none) RX9 w none "waitTill") {post : St → Prop}  (hq : post S) : K p l e rX9_waitTill s m args below meth c 2 w 0 0 (MQ below (va_Qv post (fun S' t => Hd w S' t.heap) (wA w)) args s 0 0 (wA w)) S 13 [] [] := by
  exact ret_V B rfl dX9_waitTill_13 (hq)
theorem bX9_stay_0 (B : Bd p s m args meth c cX9_stay 2 (wsOf yX9_stay cX9_stay 2 none) RX9 w none "stay") {v0 : Nat} {v1 : Int32} {post : St → Prop} (h1 : kd S v0 = 11) (hq : post (sI S 643 v0 ((gI S 643 v0) + v1))) : K p l e rX9_stay s m args below meth c 2 w 0 0 (MQ below (va_Qv post (fun S' t => Hd w S' t.heap) (wA w)) args s 0 0 (wA w)) S 0 [(0, .ref v0), (1, .int v1)] [] := by
  refine k_aload_n B 0 rfl rfl dX9_stay_0 ?_
  refine k_dup B rfl dX9_stay_1 ?_
  refine k_getI (f := 643) (v := gI S 643 v0) B 10 3 rfl (by decide) rfl (by decide) rfl rfl (fun w h => in_of (uw_10 w h)) (in_of qfRX9_15) dX9_stay_2 h1 rfl ?_
  refine k_iload_n B 1 rfl rfl dX9_stay_5 ?_
  refine k_iadd B dX9_stay_6 ?_
  refine k_putI (f := 643) B 10 3 rfl (by decide) rfl (by decide) rfl rfl (fun w h => in_of (uw_10 w h)) (in_of qfRX9_15) tyX9 tyX9_ok nmX9 rfl (tyX9_ok 3 (by decide)) dX9_stay_7 h1 ?_
  exact ret_V B rfl dX9_stay_10 (hq)
theorem bX10_init_0 (B : Bd p s m args meth c cX10_init 5 (wsOf yX10_init cX10_init 5 none) RX10 w none "<init>") {v0 : Nat} {v1 : Int32} {v2 : Int32} {v3 : Int32} {v4 : Int32} {k n : Nat} {Q : State → Prop} (h1 : k + 1 ≤ rX10_init.cells) (h2 : n + 2 ≤ rX10_init.slots) (kk : ∀ q5 : Nat, kd S q5 = 0 → K p l e rX10_init s m args below meth c 5 w (k + 1) (n + 2) Q (nw S q5 8 0) 8 [(0, .ref v0), (1, .int v1), (2, .int v2), (3, .int v3), (4, .int v4)] [.ref q5, .ref v0]) : K p l e rX10_init s m args below meth c 5 w k n Q S 0 [(0, .ref v0), (1, .int v1), (2, .int v2), (3, .int v3), (4, .int v4)] [] := by
  refine k_aload_n B 0 rfl rfl dX10_init_0 ?_
  refine k_objInit B (in_of qlRX10_1) (in_of qi_obj) (in_of qc_obj) (Nat.le_of_ble_eq_true rfl) (Nat.le_of_ble_eq_true rfl) dX10_init_1 ?_
  refine k_aload_n B 0 rfl rfl dX10_init_4 ?_
  refine k_new B 7 rfl rfl (by decide) tyX6 tyX6_ok (by decide +kernel) (fun w h => in_of (uw_7 w h)) (in_of qkRX10_7) (in_of qn7) (in_of qzRX6) h1 h2 dX10_init_5 (fun q5 f5 => ?_)
  exact kk q5 f5
theorem bX10_init_8 (B : Bd p s m args meth c cX10_init 5 (wsOf yX10_init cX10_init 5 none) RX10 w none "<init>") {v0 : Nat} {v1 : Int32} {v2 : Int32} {v3 : Int32} {v4 : Int32} {t0 : Nat} {t1 : Nat} {post : St → Prop} {k n : Nat} {Q : State → Prop} (hc : ConV l yX6_init (wsOf yX6_init cX6_init 1 none) rX6_init w S [.ref t1] post) (h1 : k + 1 ≤ rX10_init.cells) (h2 : n + 13 ≤ rX10_init.slots) (kk : ∀ (S' : St), post S' → K p l e rX10_init s m args below meth c 5 w (k + 1) (n + 13) Q S' 12 [(0, .ref v0), (1, .int v1), (2, .int v2), (3, .int v3), (4, .int v4)] [.ref t1, .ref t0]) : K p l e rX10_init s m args below meth c 5 w k n Q S 8 [(0, .ref v0), (1, .int v1), (2, .int v2), (3, .int v3), (4, .int v4)] [.ref t1, .ref t0] := by
  refine k_dup B rfl dX10_init_8 ?_
  refine callCN_V (st := [.ref t1, .ref t0]) B [] (hc) ⟨va_cnB 0 B.1.2.2.2.2 (gB qcX6_init) rfl rfl rfl (nzM_2 B.2.2.2.1.2.2.2.1) (B.1.2.2.2.2 _ (in_of qzRX6)) (by decide +kernel) ⟨Nat.le_of_ble_eq_true rfl, Nat.le_of_ble_eq_true rfl⟩, rfl, B.1.2.2.2.2 _ (in_of qiX6_init)⟩ rfl (Nat.le_of_ble_eq_true rfl) rfl dX10_init_9 ⟨h1, h2⟩ (fun S' hp => ?_)
  exact kk S' hp
theorem bX10_init_12 (B : Bd p s m args meth c cX10_init 5 (wsOf yX10_init cX10_init 5 none) RX10 w none "<init>") {v0 : Nat} {v1 : Int32} {v2 : Int32} {v3 : Int32} {v4 : Int32} {t0 : Nat} {t1 : Nat} {post : St → Prop} {k n : Nat} (h1 : kd S t0 = 12) (h2 : kd S v0 = 12) (hq : post (sI (sI (sI (sI (sP S 708 t0 (some t1)) 704 v0 v1) 705 v0 v2) 706 v0 v3) 707 v0 v4)) : K p l e rX10_init s m args below meth c 5 w k n (MQ below (va_Qv post (fun S' t => Hd w S' t.heap) (wA w)) args s k n (wA w)) S 12 [(0, .ref v0), (1, .int v1), (2, .int v2), (3, .int v3), (4, .int v4)] [.ref t1, .ref t0] := by
  refine k_putPF (f := 708) (v := some t1) B 11 4 rfl (by decide) rfl (by decide) rfl rfl (fun w h => in_of (uw_11 w h)) (in_of qfRX10_10) tyX10 tyX10_ok nmX10 rfl rfl rfl (tyX10_ok 4 (by decide)) rfl rfl dX10_init_12 h1 ?_
  refine k_aload_n B 0 rfl rfl dX10_init_15 ?_
  refine k_iload_n B 1 rfl rfl dX10_init_16 ?_
  refine k_putIF (f := 704) B 11 0 rfl (by decide) rfl (by decide) rfl rfl (fun w h => in_of (uw_11 w h)) (in_of qfRX10_16) tyX10 tyX10_ok nmX10 rfl rfl rfl (tyX10_ok 0 (by decide)) dX10_init_17 h2 ?_
  refine k_aload_n B 0 rfl rfl dX10_init_20 ?_
  refine k_iload_n B 2 rfl rfl dX10_init_21 ?_
  refine k_putIF (f := 705) B 11 1 rfl (by decide) rfl (by decide) rfl rfl (fun w h => in_of (uw_11 w h)) (in_of qfRX10_20) tyX10 tyX10_ok nmX10 rfl rfl rfl (tyX10_ok 1 (by decide)) dX10_init_22 h2 ?_
  refine k_aload_n B 0 rfl rfl dX10_init_25 ?_
  refine k_iload_n B 3 rfl rfl dX10_init_26 ?_
  refine k_putIF (f := 706) B 11 2 rfl (by decide) rfl (by decide) rfl rfl (fun w h => in_of (uw_11 w h)) (in_of qfRX10_23) tyX10 tyX10_ok nmX10 rfl rfl rfl (tyX10_ok 2 (by decide)) dX10_init_27 h2 ?_
  refine k_aload_n B 0 rfl rfl dX10_init_30 ?_
  refine k_iload B 4 rfl dX10_init_31 ?_
  refine k_putIF (f := 707) B 11 3 rfl (by decide) rfl (by decide) rfl rfl (fun w h => in_of (uw_11 w h)) (in_of qfRX10_26) tyX10 tyX10_ok nmX10 rfl rfl rfl (tyX10_ok 3 (by decide)) dX10_init_33 h2 ?_
  exact ret_V B rfl dX10_init_36 (hq)
end BL
