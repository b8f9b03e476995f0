theorem dX12_init_0 : decode cX12_init 0 = .ok (.aload_n 0, 1) := by decide +kernel
theorem dX12_init_1 : decode cX12_init 1 = .ok (.aload_n 1, 1) := by decide +kernel
theorem dX12_init_2 : decode cX12_init 2 = .ok (.putfield 3, 3) := by decide +kernel
theorem dX12_init_5 : decode cX12_init 5 = .ok (.aload_n 0, 1) := by decide +kernel
theorem dX12_init_6 : decode cX12_init 6 = .ok (.invokespecial 9, 3) := by decide +kernel
theorem dX12_init_9 : decode cX12_init 9 = .ok (.aload_n 0, 1) := by decide +kernel
theorem dX12_init_10 : decode cX12_init 10 = .ok (.bipush 30, 2) := by decide +kernel
theorem dX12_init_12 : decode cX12_init 12 = .ok (.newarray .int, 2) := by decide +kernel
theorem dX12_init_14 : decode cX12_init 14 = .ok (.putfield 15, 3) := by decide +kernel
theorem dX12_init_17 : decode cX12_init 17 = .ok (.aload_n 0, 1) := by decide +kernel
theorem dX12_init_18 : decode cX12_init 18 = .ok (.bipush 30, 2) := by decide +kernel
theorem dX12_init_20 : decode cX12_init 20 = .ok (.newarray .int, 2) := by decide +kernel
theorem dX12_init_22 : decode cX12_init 22 = .ok (.putfield 19, 3) := by decide +kernel
theorem dX12_init_25 : decode cX12_init 25 = .ok (.aload_n 0, 1) := by decide +kernel
theorem dX12_init_26 : decode cX12_init 26 = .ok (.bipush 30, 2) := by decide +kernel
theorem dX12_init_28 : decode cX12_init 28 = .ok (.newarray .int, 2) := by decide +kernel
theorem dX12_init_30 : decode cX12_init 30 = .ok (.putfield 22, 3) := by decide +kernel
theorem dX12_init_33 : decode cX12_init 33 = .ok (.aload_n 0, 1) := by decide +kernel
theorem dX12_init_34 : decode cX12_init 34 = .ok (.bipush 30, 2) := by decide +kernel
theorem dX12_init_36 : decode cX12_init 36 = .ok (.newarray .int, 2) := by decide +kernel
theorem dX12_init_38 : decode cX12_init 38 = .ok (.putfield 25, 3) := by decide +kernel
theorem dX12_init_41 : decode cX12_init 41 = .ok (.aload_n 0, 1) := by decide +kernel
theorem dX12_init_42 : decode cX12_init 42 = .ok (.bipush 30, 2) := by decide +kernel
theorem dX12_init_44 : decode cX12_init 44 = .ok (.newarray .int, 2) := by decide +kernel
theorem dX12_init_46 : decode cX12_init 46 = .ok (.putfield 28, 3) := by decide +kernel
theorem dX12_init_49 : decode cX12_init 49 = .ok (.aload_n 0, 1) := by decide +kernel
theorem dX12_init_50 : decode cX12_init 50 = .ok (.bipush 12, 2) := by decide +kernel
theorem dX12_init_52 : decode cX12_init 52 = .ok (.newarray .int, 2) := by decide +kernel
theorem dX12_init_54 : decode cX12_init 54 = .ok (.putfield 31, 3) := by decide +kernel
theorem dX12_init_57 : decode cX12_init 57 = .ok (.aload_n 0, 1) := by decide +kernel
theorem dX12_init_58 : decode cX12_init 58 = .ok (.iconst 4, 1) := by decide +kernel
theorem dX12_init_59 : decode cX12_init 59 = .ok (.newarray .int, 2) := by decide +kernel
theorem dX12_init_61 : decode cX12_init 61 = .ok (.putfield 34, 3) := by decide +kernel
theorem dX12_init_64 : decode cX12_init 64 = .ok (.aload_n 0, 1) := by decide +kernel
theorem dX12_init_65 : decode cX12_init 65 = .ok (.bipush 48, 2) := by decide +kernel
theorem dX12_init_67 : decode cX12_init 67 = .ok (.newarray .int, 2) := by decide +kernel
theorem dX12_init_69 : decode cX12_init 69 = .ok (.putfield 37, 3) := by decide +kernel
theorem dX12_init_72 : decode cX12_init 72 = .ok (.return_, 1) := by decide +kernel
theorem dX12_copy_0 : decode cX12_copy 0 = .ok (.aload_n 1, 1) := by decide +kernel
theorem dX12_copy_1 : decode cX12_copy 1 = .ok (.iconst 0, 1) := by decide +kernel
theorem dX12_copy_2 : decode cX12_copy 2 = .ok (.aload_n 2, 1) := by decide +kernel
theorem dX12_copy_3 : decode cX12_copy 3 = .ok (.iconst 0, 1) := by decide +kernel
theorem dX12_copy_4 : decode cX12_copy 4 = .ok (.aload_n 1, 1) := by decide +kernel
theorem dX12_copy_5 : decode cX12_copy 5 = .ok (.arraylength, 1) := by decide +kernel
theorem dX12_copy_6 : decode cX12_copy 6 = .ok (.invokestatic 40, 3) := by decide +kernel
theorem dX12_copy_9 : decode cX12_copy 9 = .ok (.return_, 1) := by decide +kernel
theorem dX12_become_0 : decode cX12_become 0 = .ok (.aload_n 0, 1) := by decide +kernel
theorem dX12_become_1 : decode cX12_become 1 = .ok (.aload_n 1, 1) := by decide +kernel
theorem dX12_become_2 : decode cX12_become 2 = .ok (.getfield 46, 3) := by decide +kernel
theorem dX12_become_5 : decode cX12_become 5 = .ok (.putfield 46, 3) := by decide +kernel
theorem dX12_become_8 : decode cX12_become 8 = .ok (.aload_n 0, 1) := by decide +kernel
theorem dX12_become_9 : decode cX12_become 9 = .ok (.aload_n 1, 1) := by decide +kernel
theorem dX12_become_10 : decode cX12_become 10 = .ok (.getfield 15, 3) := by decide +kernel
theorem dX12_become_13 : decode cX12_become 13 = .ok (.aload_n 0, 1) := by decide +kernel
theorem dX12_become_14 : decode cX12_become 14 = .ok (.getfield 15, 3) := by decide +kernel
theorem dX12_become_17 : decode cX12_become 17 = .ok (.invokevirtual 50, 3) := by decide +kernel
theorem dX12_become_20 : decode cX12_become 20 = .ok (.aload_n 0, 1) := by decide +kernel
theorem dX12_become_21 : decode cX12_become 21 = .ok (.aload_n 1, 1) := by decide +kernel
theorem dX12_become_22 : decode cX12_become 22 = .ok (.getfield 19, 3) := by decide +kernel
theorem dX12_become_25 : decode cX12_become 25 = .ok (.aload_n 0, 1) := by decide +kernel
theorem dX12_become_26 : decode cX12_become 26 = .ok (.getfield 19, 3) := by decide +kernel
theorem dX12_become_29 : decode cX12_become 29 = .ok (.invokevirtual 50, 3) := by decide +kernel
theorem dX12_become_32 : decode cX12_become 32 = .ok (.aload_n 0, 1) := by decide +kernel
theorem dX12_become_33 : decode cX12_become 33 = .ok (.aload_n 1, 1) := by decide +kernel
theorem dX12_become_34 : decode cX12_become 34 = .ok (.getfield 22, 3) := by decide +kernel
theorem dX12_become_37 : decode cX12_become 37 = .ok (.aload_n 0, 1) := by decide +kernel
theorem dX12_become_38 : decode cX12_become 38 = .ok (.getfield 22, 3) := by decide +kernel
theorem dX12_become_41 : decode cX12_become 41 = .ok (.invokevirtual 50, 3) := by decide +kernel
theorem dX12_become_44 : decode cX12_become 44 = .ok (.aload_n 0, 1) := by decide +kernel
theorem dX12_become_45 : decode cX12_become 45 = .ok (.aload_n 1, 1) := by decide +kernel
theorem dX12_become_46 : decode cX12_become 46 = .ok (.getfield 25, 3) := by decide +kernel
theorem dX12_become_49 : decode cX12_become 49 = .ok (.aload_n 0, 1) := by decide +kernel
theorem dX12_become_50 : decode cX12_become 50 = .ok (.getfield 25, 3) := by decide +kernel
theorem dX12_become_53 : decode cX12_become 53 = .ok (.invokevirtual 50, 3) := by decide +kernel
theorem dX12_become_56 : decode cX12_become 56 = .ok (.aload_n 0, 1) := by decide +kernel
theorem dX12_become_57 : decode cX12_become 57 = .ok (.aload_n 1, 1) := by decide +kernel
theorem dX12_become_58 : decode cX12_become 58 = .ok (.getfield 28, 3) := by decide +kernel
theorem dX12_become_61 : decode cX12_become 61 = .ok (.aload_n 0, 1) := by decide +kernel
theorem dX12_become_62 : decode cX12_become 62 = .ok (.getfield 28, 3) := by decide +kernel
theorem dX12_become_65 : decode cX12_become 65 = .ok (.invokevirtual 50, 3) := by decide +kernel
theorem dX12_become_68 : decode cX12_become 68 = .ok (.aload_n 0, 1) := by decide +kernel
theorem dX12_become_69 : decode cX12_become 69 = .ok (.aload_n 1, 1) := by decide +kernel
theorem dX12_become_70 : decode cX12_become 70 = .ok (.getfield 31, 3) := by decide +kernel
theorem dX12_become_73 : decode cX12_become 73 = .ok (.aload_n 0, 1) := by decide +kernel
theorem dX12_become_74 : decode cX12_become 74 = .ok (.getfield 31, 3) := by decide +kernel
theorem dX12_become_77 : decode cX12_become 77 = .ok (.invokevirtual 50, 3) := by decide +kernel
theorem dX12_become_80 : decode cX12_become 80 = .ok (.aload_n 0, 1) := by decide +kernel
theorem dX12_become_81 : decode cX12_become 81 = .ok (.aload_n 1, 1) := by decide +kernel
theorem dX12_become_82 : decode cX12_become 82 = .ok (.getfield 34, 3) := by decide +kernel
theorem dX12_become_85 : decode cX12_become 85 = .ok (.aload_n 0, 1) := by decide +kernel
theorem dX12_become_86 : decode cX12_become 86 = .ok (.getfield 34, 3) := by decide +kernel
theorem dX12_become_89 : decode cX12_become 89 = .ok (.invokevirtual 50, 3) := by decide +kernel
theorem dX12_become_92 : decode cX12_become 92 = .ok (.aload_n 0, 1) := by decide +kernel
theorem dX12_become_93 : decode cX12_become 93 = .ok (.aload_n 1, 1) := by decide +kernel
theorem dX12_become_94 : decode cX12_become 94 = .ok (.getfield 37, 3) := by decide +kernel
theorem dX12_become_97 : decode cX12_become 97 = .ok (.aload_n 0, 1) := by decide +kernel
theorem dX12_become_98 : decode cX12_become 98 = .ok (.getfield 37, 3) := by decide +kernel
theorem dX12_become_101 : decode cX12_become 101 = .ok (.invokevirtual 50, 3) := by decide +kernel
theorem dX12_become_104 : decode cX12_become 104 = .ok (.return_, 1) := by decide +kernel
theorem dX12_vanOf_0 : decode cX12_vanOf 0 = .ok (.iconst 0, 1) := by decide +kernel
theorem dX12_vanOf_1 : decode cX12_vanOf 1 = .ok (.istore_n 2, 1) := by decide +kernel
theorem dX12_vanOf_2 : decode cX12_vanOf 2 = .ok (.iload_n 2, 1) := by decide +kernel
theorem dX12_vanOf_3 : decode cX12_vanOf 3 = .ok (.aload_n 0, 1) := by decide +kernel
theorem dX12_vanOf_4 : decode cX12_vanOf 4 = .ok (.getfield 3, 3) := by decide +kernel
theorem dX12_vanOf_7 : decode cX12_vanOf 7 = .ok (.getfield 54, 3) := by decide +kernel
theorem dX12_vanOf_10 : decode cX12_vanOf 10 = .ok (.if_icmp .ge 44, 3) := by decide +kernel
theorem dX12_vanOf_13 : decode cX12_vanOf 13 = .ok (.iconst 0, 1) := by decide +kernel
theorem dX12_vanOf_14 : decode cX12_vanOf 14 = .ok (.istore_n 3, 1) := by decide +kernel
theorem dX12_vanOf_15 : decode cX12_vanOf 15 = .ok (.iload_n 3, 1) := by decide +kernel
theorem dX12_vanOf_16 : decode cX12_vanOf 16 = .ok (.aload_n 0, 1) := by decide +kernel
theorem dX12_vanOf_17 : decode cX12_vanOf 17 = .ok (.getfield 34, 3) := by decide +kernel
theorem dX12_vanOf_20 : decode cX12_vanOf 20 = .ok (.iload_n 2, 1) := by decide +kernel
theorem dX12_vanOf_21 : decode cX12_vanOf 21 = .ok (.iaload, 1) := by decide +kernel
theorem dX12_vanOf_22 : decode cX12_vanOf 22 = .ok (.if_icmp .ge 26, 3) := by decide +kernel
theorem dX12_vanOf_25 : decode cX12_vanOf 25 = .ok (.aload_n 0, 1) := by decide +kernel
theorem dX12_vanOf_26 : decode cX12_vanOf 26 = .ok (.getfield 37, 3) := by decide +kernel
theorem dX12_vanOf_29 : decode cX12_vanOf 29 = .ok (.bipush 12, 2) := by decide +kernel
theorem dX12_vanOf_31 : decode cX12_vanOf 31 = .ok (.iload_n 2, 1) := by decide +kernel
theorem dX12_vanOf_32 : decode cX12_vanOf 32 = .ok (.imul, 1) := by decide +kernel
theorem dX12_vanOf_33 : decode cX12_vanOf 33 = .ok (.iload_n 3, 1) := by decide +kernel
theorem dX12_vanOf_34 : decode cX12_vanOf 34 = .ok (.iadd, 1) := by decide +kernel
theorem dX12_vanOf_35 : decode cX12_vanOf 35 = .ok (.iaload, 1) := by decide +kernel
theorem dX12_vanOf_36 : decode cX12_vanOf 36 = .ok (.iload_n 1, 1) := by decide +kernel
theorem dX12_vanOf_37 : decode cX12_vanOf 37 = .ok (.if_icmp .ne 5, 3) := by decide +kernel
theorem dX12_vanOf_40 : decode cX12_vanOf 40 = .ok (.iload_n 2, 1) := by decide +kernel
theorem dX12_vanOf_41 : decode cX12_vanOf 41 = .ok (.ireturn, 1) := by decide +kernel
theorem dX12_vanOf_42 : decode cX12_vanOf 42 = .ok (.iinc 3 1, 3) := by decide +kernel
theorem dX12_vanOf_45 : decode cX12_vanOf 45 = .ok (.goto (-30), 3) := by decide +kernel
theorem dX12_vanOf_48 : decode cX12_vanOf 48 = .ok (.iinc 2 1, 3) := by decide +kernel
theorem dX12_vanOf_51 : decode cX12_vanOf 51 = .ok (.goto (-49), 3) := by decide +kernel
theorem dX12_vanOf_54 : decode cX12_vanOf 54 = .ok (.iconst (-1), 1) := by decide +kernel
theorem dX12_vanOf_55 : decode cX12_vanOf 55 = .ok (.ireturn, 1) := by decide +kernel
theorem dX12_boxFor_0 : decode cX12_boxFor 0 = .ok (.aload_n 0, 1) := by decide +kernel
theorem dX12_boxFor_1 : decode cX12_boxFor 1 = .ok (.getfield 3, 3) := by decide +kernel
theorem dX12_boxFor_4 : decode cX12_boxFor 4 = .ok (.getfield 57, 3) := by decide +kernel
theorem dX12_boxFor_7 : decode cX12_boxFor 7 = .ok (.iload_n 1, 1) := by decide +kernel
theorem dX12_boxFor_8 : decode cX12_boxFor 8 = .ok (.iaload, 1) := by decide +kernel
theorem dX12_boxFor_9 : decode cX12_boxFor 9 = .ok (.iconst 5, 1) := by decide +kernel
theorem dX12_boxFor_10 : decode cX12_boxFor 10 = .ok (.if_icmp .gt 7, 3) := by decide +kernel
theorem dX12_boxFor_13 : decode cX12_boxFor 13 = .ok (.iconst 0, 1) := by decide +kernel
theorem dX12_boxFor_14 : decode cX12_boxFor 14 = .ok (.goto 22, 3) := by decide +kernel
theorem dX12_boxFor_17 : decode cX12_boxFor 17 = .ok (.aload_n 0, 1) := by decide +kernel
theorem dX12_boxFor_18 : decode cX12_boxFor 18 = .ok (.getfield 3, 3) := by decide +kernel
theorem dX12_boxFor_21 : decode cX12_boxFor 21 = .ok (.getfield 57, 3) := by decide +kernel
theorem dX12_boxFor_24 : decode cX12_boxFor 24 = .ok (.iload_n 1, 1) := by decide +kernel
theorem dX12_boxFor_25 : decode cX12_boxFor 25 = .ok (.iaload, 1) := by decide +kernel
theorem dX12_boxFor_26 : decode cX12_boxFor 26 = .ok (.bipush 15, 2) := by decide +kernel
theorem dX12_boxFor_28 : decode cX12_boxFor 28 = .ok (.if_icmp .gt 7, 3) := by decide +kernel
theorem dX12_boxFor_31 : decode cX12_boxFor 31 = .ok (.iconst 1, 1) := by decide +kernel
theorem dX12_boxFor_32 : decode cX12_boxFor 32 = .ok (.goto 4, 3) := by decide +kernel
theorem dX12_boxFor_35 : decode cX12_boxFor 35 = .ok (.iconst 2, 1) := by decide +kernel
theorem dX12_boxFor_36 : decode cX12_boxFor 36 = .ok (.istore_n 3, 1) := by decide +kernel
theorem dX12_boxFor_37 : decode cX12_boxFor 37 = .ok (.iload_n 3, 1) := by decide +kernel
theorem dX12_boxFor_38 : decode cX12_boxFor 38 = .ok (.istore 4, 2) := by decide +kernel
theorem dX12_boxFor_40 : decode cX12_boxFor 40 = .ok (.iload 4, 2) := by decide +kernel
theorem dX12_boxFor_42 : decode cX12_boxFor 42 = .ok (.iconst 3, 1) := by decide +kernel
theorem dX12_boxFor_43 : decode cX12_boxFor 43 = .ok (.if_icmp .ge 26, 3) := by decide +kernel
theorem dX12_boxFor_46 : decode cX12_boxFor 46 = .ok (.aload_n 0, 1) := by decide +kernel
theorem dX12_boxFor_47 : decode cX12_boxFor 47 = .ok (.getfield 31, 3) := by decide +kernel
theorem dX12_boxFor_50 : decode cX12_boxFor 50 = .ok (.iconst 3, 1) := by decide +kernel
theorem dX12_boxFor_51 : decode cX12_boxFor 51 = .ok (.iload_n 2, 1) := by decide +kernel
theorem dX12_boxFor_52 : decode cX12_boxFor 52 = .ok (.imul, 1) := by decide +kernel
theorem dX12_boxFor_53 : decode cX12_boxFor 53 = .ok (.iload 4, 2) := by decide +kernel
theorem dX12_boxFor_55 : decode cX12_boxFor 55 = .ok (.iadd, 1) := by decide +kernel
theorem dX12_boxFor_56 : decode cX12_boxFor 56 = .ok (.iaload, 1) := by decide +kernel
theorem dX12_boxFor_57 : decode cX12_boxFor 57 = .ok (.ifCond .le 6, 3) := by decide +kernel
theorem dX12_boxFor_60 : decode cX12_boxFor 60 = .ok (.iload 4, 2) := by decide +kernel
theorem dX12_boxFor_62 : decode cX12_boxFor 62 = .ok (.ireturn, 1) := by decide +kernel
theorem dX12_boxFor_63 : decode cX12_boxFor 63 = .ok (.iinc 4 1, 3) := by decide +kernel
theorem dX12_boxFor_66 : decode cX12_boxFor 66 = .ok (.goto (-26), 3) := by decide +kernel
theorem dX12_boxFor_69 : decode cX12_boxFor 69 = .ok (.iconst (-1), 1) := by decide +kernel
theorem dX12_boxFor_70 : decode cX12_boxFor 70 = .ok (.ireturn, 1) := by decide +kernel
theorem dX12_goTo_0 : decode cX12_goTo 0 = .ok (.aload_n 0, 1) := by decide +kernel
theorem dX12_goTo_1 : decode cX12_goTo 1 = .ok (.dup, 1) := by decide +kernel
theorem dX12_goTo_2 : decode cX12_goTo 2 = .ok (.getfield 60, 3) := by decide +kernel
theorem dX12_goTo_5 : decode cX12_goTo 5 = .ok (.aload_n 0, 1) := by decide +kernel
theorem dX12_goTo_6 : decode cX12_goTo 6 = .ok (.getfield 3, 3) := by decide +kernel
theorem dX12_goTo_9 : decode cX12_goTo 9 = .ok (.aload_n 0, 1) := by decide +kernel
theorem dX12_goTo_10 : decode cX12_goTo 10 = .ok (.getfield 63, 3) := by decide +kernel
theorem dX12_goTo_13 : decode cX12_goTo 13 = .ok (.aload_n 0, 1) := by decide +kernel
theorem dX12_goTo_14 : decode cX12_goTo 14 = .ok (.getfield 66, 3) := by decide +kernel
theorem dX12_goTo_17 : decode cX12_goTo 17 = .ok (.iload_n 1, 1) := by decide +kernel
theorem dX12_goTo_18 : decode cX12_goTo 18 = .ok (.iload_n 2, 1) := by decide +kernel
theorem dX12_goTo_19 : decode cX12_goTo 19 = .ok (.invokestatic 69, 3) := by decide +kernel
theorem dX12_goTo_22 : decode cX12_goTo 22 = .ok (.aload_n 0, 1) := by decide +kernel
theorem dX12_goTo_23 : decode cX12_goTo 23 = .ok (.getfield 60, 3) := by decide +kernel
theorem dX12_goTo_26 : decode cX12_goTo 26 = .ok (.invokevirtual 73, 3) := by decide +kernel
theorem dX12_goTo_29 : decode cX12_goTo 29 = .ok (.iadd, 1) := by decide +kernel
theorem dX12_goTo_30 : decode cX12_goTo 30 = .ok (.putfield 60, 3) := by decide +kernel
theorem dX12_goTo_33 : decode cX12_goTo 33 = .ok (.aload_n 0, 1) := by decide +kernel
theorem dX12_goTo_34 : decode cX12_goTo 34 = .ok (.iload_n 1, 1) := by decide +kernel
theorem dX12_goTo_35 : decode cX12_goTo 35 = .ok (.putfield 63, 3) := by decide +kernel
theorem dX12_goTo_38 : decode cX12_goTo 38 = .ok (.aload_n 0, 1) := by decide +kernel
theorem dX12_goTo_39 : decode cX12_goTo 39 = .ok (.iload_n 2, 1) := by decide +kernel
theorem dX12_goTo_40 : decode cX12_goTo 40 = .ok (.putfield 66, 3) := by decide +kernel
theorem dX12_goTo_43 : decode cX12_goTo 43 = .ok (.return_, 1) := by decide +kernel
theorem dX12_work_0 : decode cX12_work 0 = .ok (.aload_n 0, 1) := by decide +kernel
theorem dX12_work_1 : decode cX12_work 1 = .ok (.getfield 60, 3) := by decide +kernel
theorem dX12_work_4 : decode cX12_work 4 = .ok (.aload_n 0, 1) := by decide +kernel
theorem dX12_work_5 : decode cX12_work 5 = .ok (.getfield 77, 3) := by decide +kernel
theorem dX12_work_8 : decode cX12_work 8 = .ok (.isub, 1) := by decide +kernel
theorem dX12_work_9 : decode cX12_work 9 = .ok (.aload_n 0, 1) := by decide +kernel
theorem dX12_work_10 : decode cX12_work 10 = .ok (.getfield 3, 3) := by decide +kernel
theorem dX12_work_13 : decode cX12_work 13 = .ok (.aload_n 0, 1) := by decide +kernel
theorem dX12_work_14 : decode cX12_work 14 = .ok (.getfield 63, 3) := by decide +kernel
theorem dX12_work_17 : decode cX12_work 17 = .ok (.aload_n 0, 1) := by decide +kernel
theorem dX12_work_18 : decode cX12_work 18 = .ok (.getfield 66, 3) := by decide +kernel
theorem dX12_work_21 : decode cX12_work 21 = .ok (.iload_n 1, 1) := by decide +kernel
theorem dX12_work_22 : decode cX12_work 22 = .ok (.iload_n 2, 1) := by decide +kernel
theorem dX12_work_23 : decode cX12_work 23 = .ok (.invokestatic 69, 3) := by decide +kernel
theorem dX12_work_26 : decode cX12_work 26 = .ok (.aload_n 0, 1) := by decide +kernel
theorem dX12_work_27 : decode cX12_work 27 = .ok (.getfield 60, 3) := by decide +kernel
theorem dX12_work_30 : decode cX12_work 30 = .ok (.invokevirtual 73, 3) := by decide +kernel
theorem dX12_work_33 : decode cX12_work 33 = .ok (.iadd, 1) := by decide +kernel
theorem dX12_work_34 : decode cX12_work 34 = .ok (.sipush 240, 3) := by decide +kernel
theorem dX12_work_37 : decode cX12_work 37 = .ok (.if_icmp .le 22, 3) := by decide +kernel
theorem dX12_work_40 : decode cX12_work 40 = .ok (.aload_n 0, 1) := by decide +kernel
theorem dX12_work_41 : decode cX12_work 41 = .ok (.dup, 1) := by decide +kernel
theorem dX12_work_42 : decode cX12_work 42 = .ok (.getfield 60, 3) := by decide +kernel
theorem dX12_work_45 : decode cX12_work 45 = .ok (.bipush 30, 2) := by decide +kernel
theorem dX12_work_47 : decode cX12_work 47 = .ok (.iadd, 1) := by decide +kernel
theorem dX12_work_48 : decode cX12_work 48 = .ok (.putfield 60, 3) := by decide +kernel
theorem dX12_work_51 : decode cX12_work 51 = .ok (.aload_n 0, 1) := by decide +kernel
theorem dX12_work_52 : decode cX12_work 52 = .ok (.aload_n 0, 1) := by decide +kernel
theorem dX12_work_53 : decode cX12_work 53 = .ok (.getfield 60, 3) := by decide +kernel
theorem dX12_work_56 : decode cX12_work 56 = .ok (.putfield 77, 3) := by decide +kernel
theorem dX12_work_59 : decode cX12_work 59 = .ok (.aload_n 0, 1) := by decide +kernel
theorem dX12_work_60 : decode cX12_work 60 = .ok (.iload_n 1, 1) := by decide +kernel
theorem dX12_work_61 : decode cX12_work 61 = .ok (.iload_n 2, 1) := by decide +kernel
theorem dX12_work_62 : decode cX12_work 62 = .ok (.invokevirtual 80, 3) := by decide +kernel
theorem dX12_work_65 : decode cX12_work 65 = .ok (.return_, 1) := by decide +kernel
theorem dX12_isHome_0 : decode cX12_isHome 0 = .ok (.aload_n 0, 1) := by decide +kernel
theorem dX12_isHome_1 : decode cX12_isHome 1 = .ok (.getfield 3, 3) := by decide +kernel
theorem dX12_isHome_4 : decode cX12_isHome 4 = .ok (.getfield 84, 3) := by decide +kernel
theorem dX12_isHome_7 : decode cX12_isHome 7 = .ok (.iload_n 1, 1) := by decide +kernel
theorem dX12_isHome_8 : decode cX12_isHome 8 = .ok (.iaload, 1) := by decide +kernel
theorem dX12_isHome_9 : decode cX12_isHome 9 = .ok (.aload_n 0, 1) := by decide +kernel
theorem dX12_isHome_10 : decode cX12_isHome 10 = .ok (.getfield 60, 3) := by decide +kernel
theorem dX12_isHome_13 : decode cX12_isHome 13 = .ok (.bipush 60, 2) := by decide +kernel
theorem dX12_isHome_15 : decode cX12_isHome 15 = .ok (.idiv, 1) := by decide +kernel
theorem dX12_isHome_16 : decode cX12_isHome 16 = .ok (.bipush 24, 2) := by decide +kernel
theorem dX12_isHome_18 : decode cX12_isHome 18 = .ok (.irem, 1) := by decide +kernel
theorem dX12_isHome_19 : decode cX12_isHome 19 = .ok (.ishr, 1) := by decide +kernel
theorem dX12_isHome_20 : decode cX12_isHome 20 = .ok (.iconst 1, 1) := by decide +kernel
theorem dX12_isHome_21 : decode cX12_isHome 21 = .ok (.iand, 1) := by decide +kernel
theorem dX12_isHome_22 : decode cX12_isHome 22 = .ok (.iconst 1, 1) := by decide +kernel
theorem dX12_isHome_23 : decode cX12_isHome 23 = .ok (.if_icmp .ne 7, 3) := by decide +kernel
theorem dX12_isHome_26 : decode cX12_isHome 26 = .ok (.iconst 1, 1) := by decide +kernel
theorem dX12_isHome_27 : decode cX12_isHome 27 = .ok (.goto 4, 3) := by decide +kernel
theorem dX12_isHome_30 : decode cX12_isHome 30 = .ok (.iconst 0, 1) := by decide +kernel
theorem dX12_isHome_31 : decode cX12_isHome 31 = .ok (.ireturn, 1) := by decide +kernel
theorem dX12_isPlaced_0 : decode cX12_isPlaced 0 = .ok (.aload_n 0, 1) := by decide +kernel
theorem dX12_isPlaced_1 : decode cX12_isPlaced 1 = .ok (.getfield 3, 3) := by decide +kernel
theorem dX12_isPlaced_4 : decode cX12_isPlaced 4 = .ok (.getfield 87, 3) := by decide +kernel
theorem dX12_isPlaced_7 : decode cX12_isPlaced 7 = .ok (.iload_n 1, 1) := by decide +kernel
theorem dX12_isPlaced_8 : decode cX12_isPlaced 8 = .ok (.iaload, 1) := by decide +kernel
theorem dX12_isPlaced_9 : decode cX12_isPlaced 9 = .ok (.istore_n 2, 1) := by decide +kernel
theorem dX12_isPlaced_10 : decode cX12_isPlaced 10 = .ok (.iconst 0, 1) := by decide +kernel
theorem dX12_isPlaced_11 : decode cX12_isPlaced 11 = .ok (.istore_n 3, 1) := by decide +kernel
theorem dX12_isPlaced_12 : decode cX12_isPlaced 12 = .ok (.iload_n 3, 1) := by decide +kernel
theorem dX12_isPlaced_13 : decode cX12_isPlaced 13 = .ok (.aload_n 0, 1) := by decide +kernel
theorem dX12_isPlaced_14 : decode cX12_isPlaced 14 = .ok (.getfield 3, 3) := by decide +kernel
theorem dX12_isPlaced_17 : decode cX12_isPlaced 17 = .ok (.getfield 90, 3) := by decide +kernel
theorem dX12_isPlaced_20 : decode cX12_isPlaced 20 = .ok (.iload_n 2, 1) := by decide +kernel
theorem dX12_isPlaced_21 : decode cX12_isPlaced 21 = .ok (.iaload, 1) := by decide +kernel
theorem dX12_isPlaced_22 : decode cX12_isPlaced 22 = .ok (.if_icmp .ge 317, 3) := by decide +kernel
theorem dX12_isPlaced_25 : decode cX12_isPlaced 25 = .ok (.aload_n 0, 1) := by decide +kernel
theorem dX12_isPlaced_26 : decode cX12_isPlaced 26 = .ok (.getfield 3, 3) := by decide +kernel
theorem dX12_isPlaced_29 : decode cX12_isPlaced 29 = .ok (.getfield 93, 3) := by decide +kernel
theorem dX12_isPlaced_32 : decode cX12_isPlaced 32 = .ok (.iconst 3, 1) := by decide +kernel
theorem dX12_isPlaced_33 : decode cX12_isPlaced 33 = .ok (.iload_n 2, 1) := by decide +kernel
theorem dX12_isPlaced_34 : decode cX12_isPlaced 34 = .ok (.imul, 1) := by decide +kernel
theorem dX12_isPlaced_35 : decode cX12_isPlaced 35 = .ok (.iload_n 3, 1) := by decide +kernel
theorem dX12_isPlaced_36 : decode cX12_isPlaced 36 = .ok (.iadd, 1) := by decide +kernel
theorem dX12_isPlaced_37 : decode cX12_isPlaced 37 = .ok (.iaload, 1) := by decide +kernel
theorem dX12_isPlaced_38 : decode cX12_isPlaced 38 = .ok (.bipush 100, 2) := by decide +kernel
theorem dX12_isPlaced_40 : decode cX12_isPlaced 40 = .ok (.irem, 1) := by decide +kernel
theorem dX12_isPlaced_41 : decode cX12_isPlaced 41 = .ok (.istore 4, 2) := by decide +kernel
theorem dX12_isPlaced_43 : decode cX12_isPlaced 43 = .ok (.aload_n 0, 1) := by decide +kernel
theorem dX12_isPlaced_44 : decode cX12_isPlaced 44 = .ok (.getfield 3, 3) := by decide +kernel
theorem dX12_isPlaced_47 : decode cX12_isPlaced 47 = .ok (.getfield 93, 3) := by decide +kernel
theorem dX12_isPlaced_50 : decode cX12_isPlaced 50 = .ok (.iconst 3, 1) := by decide +kernel
theorem dX12_isPlaced_51 : decode cX12_isPlaced 51 = .ok (.iload_n 2, 1) := by decide +kernel
theorem dX12_isPlaced_52 : decode cX12_isPlaced 52 = .ok (.imul, 1) := by decide +kernel
theorem dX12_isPlaced_53 : decode cX12_isPlaced 53 = .ok (.iload_n 3, 1) := by decide +kernel
theorem dX12_isPlaced_54 : decode cX12_isPlaced 54 = .ok (.iadd, 1) := by decide +kernel
theorem dX12_isPlaced_55 : decode cX12_isPlaced 55 = .ok (.iaload, 1) := by decide +kernel
theorem dX12_isPlaced_56 : decode cX12_isPlaced 56 = .ok (.sipush 200, 3) := by decide +kernel
theorem dX12_isPlaced_59 : decode cX12_isPlaced 59 = .ok (.if_icmp .ge 162, 3) := by decide +kernel
theorem dX12_isPlaced_62 : decode cX12_isPlaced 62 = .ok (.aload_n 0, 1) := by decide +kernel
theorem dX12_isPlaced_63 : decode cX12_isPlaced 63 = .ok (.iload_n 1, 1) := by decide +kernel
theorem dX12_isPlaced_64 : decode cX12_isPlaced 64 = .ok (.iload 4, 2) := by decide +kernel
theorem dX12_isPlaced_66 : decode cX12_isPlaced 66 = .ok (.invokevirtual 96, 3) := by decide +kernel
theorem dX12_isPlaced_69 : decode cX12_isPlaced 69 = .ok (.istore 5, 2) := by decide +kernel
theorem dX12_isPlaced_71 : decode cX12_isPlaced 71 = .ok (.aload_n 0, 1) := by decide +kernel
theorem dX12_isPlaced_72 : decode cX12_isPlaced 72 = .ok (.getfield 3, 3) := by decide +kernel
theorem dX12_isPlaced_75 : decode cX12_isPlaced 75 = .ok (.getfield 99, 3) := by decide +kernel
theorem dX12_isPlaced_78 : decode cX12_isPlaced 78 = .ok (.iload_n 1, 1) := by decide +kernel
theorem dX12_isPlaced_79 : decode cX12_isPlaced 79 = .ok (.iaload, 1) := by decide +kernel
theorem dX12_isPlaced_80 : decode cX12_isPlaced 80 = .ok (.iconst 1, 1) := by decide +kernel
theorem dX12_isPlaced_81 : decode cX12_isPlaced 81 = .ok (.if_icmp .eq 252, 3) := by decide +kernel
theorem dX12_isPlaced_84 : decode cX12_isPlaced 84 = .ok (.iload 5, 2) := by decide +kernel
theorem dX12_isPlaced_86 : decode cX12_isPlaced 86 = .ok (.iconst (-1), 1) := by decide +kernel
theorem dX12_isPlaced_87 : decode cX12_isPlaced 87 = .ok (.if_icmp .eq 246, 3) := by decide +kernel
theorem dX12_isPlaced_90 : decode cX12_isPlaced 90 = .ok (.aload_n 0, 1) := by decide +kernel
theorem dX12_isPlaced_91 : decode cX12_isPlaced 91 = .ok (.getfield 3, 3) := by decide +kernel
theorem dX12_isPlaced_94 : decode cX12_isPlaced 94 = .ok (.getfield 102, 3) := by decide +kernel
theorem dX12_isPlaced_97 : decode cX12_isPlaced 97 = .ok (.iload_n 2, 1) := by decide +kernel
theorem dX12_isPlaced_98 : decode cX12_isPlaced 98 = .ok (.iaload, 1) := by decide +kernel
theorem dX12_isPlaced_99 : decode cX12_isPlaced 99 = .ok (.aload_n 0, 1) := by decide +kernel
theorem dX12_isPlaced_100 : decode cX12_isPlaced 100 = .ok (.getfield 3, 3) := by decide +kernel
theorem dX12_isPlaced_103 : decode cX12_isPlaced 103 = .ok (.getfield 105, 3) := by decide +kernel
theorem dX12_isPlaced_106 : decode cX12_isPlaced 106 = .ok (.iload_n 2, 1) := by decide +kernel
theorem dX12_isPlaced_107 : decode cX12_isPlaced 107 = .ok (.iaload, 1) := by decide +kernel
theorem dX12_isPlaced_108 : decode cX12_isPlaced 108 = .ok (.aload_n 0, 1) := by decide +kernel
theorem dX12_isPlaced_109 : decode cX12_isPlaced 109 = .ok (.getfield 3, 3) := by decide +kernel
theorem dX12_isPlaced_112 : decode cX12_isPlaced 112 = .ok (.getfield 108, 3) := by decide +kernel
theorem dX12_isPlaced_115 : decode cX12_isPlaced 115 = .ok (.iload 4, 2) := by decide +kernel
theorem dX12_isPlaced_117 : decode cX12_isPlaced 117 = .ok (.iaload, 1) := by decide +kernel
theorem dX12_isPlaced_118 : decode cX12_isPlaced 118 = .ok (.aload_n 0, 1) := by decide +kernel
theorem dX12_isPlaced_119 : decode cX12_isPlaced 119 = .ok (.getfield 3, 3) := by decide +kernel
theorem dX12_isPlaced_122 : decode cX12_isPlaced 122 = .ok (.getfield 111, 3) := by decide +kernel
theorem dX12_isPlaced_125 : decode cX12_isPlaced 125 = .ok (.iload 4, 2) := by decide +kernel
theorem dX12_isPlaced_127 : decode cX12_isPlaced 127 = .ok (.iaload, 1) := by decide +kernel
theorem dX12_isPlaced_128 : decode cX12_isPlaced 128 = .ok (.invokestatic 69, 3) := by decide +kernel
theorem dX12_isPlaced_131 : decode cX12_isPlaced 131 = .ok (.bipush 15, 2) := by decide +kernel
theorem dX12_isPlaced_133 : decode cX12_isPlaced 133 = .ok (.if_icmp .le 6, 3) := by decide +kernel
theorem dX12_isPlaced_136 : decode cX12_isPlaced 136 = .ok (.goto 197, 3) := by decide +kernel
theorem dX12_isPlaced_139 : decode cX12_isPlaced 139 = .ok (.aload_n 0, 1) := by decide +kernel
theorem dX12_isPlaced_140 : decode cX12_isPlaced 140 = .ok (.aload_n 0, 1) := by decide +kernel
theorem dX12_isPlaced_141 : decode cX12_isPlaced 141 = .ok (.getfield 3, 3) := by decide +kernel
theorem dX12_isPlaced_144 : decode cX12_isPlaced 144 = .ok (.getfield 108, 3) := by decide +kernel
theorem dX12_isPlaced_147 : decode cX12_isPlaced 147 = .ok (.iload 4, 2) := by decide +kernel
theorem dX12_isPlaced_149 : decode cX12_isPlaced 149 = .ok (.iaload, 1) := by decide +kernel
theorem dX12_isPlaced_150 : decode cX12_isPlaced 150 = .ok (.aload_n 0, 1) := by decide +kernel
theorem dX12_isPlaced_151 : decode cX12_isPlaced 151 = .ok (.getfield 3, 3) := by decide +kernel
theorem dX12_isPlaced_154 : decode cX12_isPlaced 154 = .ok (.getfield 111, 3) := by decide +kernel
theorem dX12_isPlaced_157 : decode cX12_isPlaced 157 = .ok (.iload 4, 2) := by decide +kernel
theorem dX12_isPlaced_159 : decode cX12_isPlaced 159 = .ok (.iaload, 1) := by decide +kernel
theorem dX12_isPlaced_160 : decode cX12_isPlaced 160 = .ok (.invokevirtual 80, 3) := by decide +kernel
theorem dX12_isPlaced_163 : decode cX12_isPlaced 163 = .ok (.aload_n 0, 1) := by decide +kernel
theorem dX12_isPlaced_164 : decode cX12_isPlaced 164 = .ok (.dup, 1) := by decide +kernel
theorem dX12_isPlaced_165 : decode cX12_isPlaced 165 = .ok (.getfield 60, 3) := by decide +kernel
theorem dX12_isPlaced_168 : decode cX12_isPlaced 168 = .ok (.iconst 2, 1) := by decide +kernel
theorem dX12_isPlaced_169 : decode cX12_isPlaced 169 = .ok (.iadd, 1) := by decide +kernel
theorem dX12_isPlaced_170 : decode cX12_isPlaced 170 = .ok (.putfield 60, 3) := by decide +kernel
theorem dX12_isPlaced_173 : decode cX12_isPlaced 173 = .ok (.aload_n 0, 1) := by decide +kernel
theorem dX12_isPlaced_174 : decode cX12_isPlaced 174 = .ok (.getfield 15, 3) := by decide +kernel
theorem dX12_isPlaced_177 : decode cX12_isPlaced 177 = .ok (.iload_n 1, 1) := by decide +kernel
theorem dX12_isPlaced_178 : decode cX12_isPlaced 178 = .ok (.iconst 2, 1) := by decide +kernel
theorem dX12_isPlaced_179 : decode cX12_isPlaced 179 = .ok (.iastore, 1) := by decide +kernel
theorem dX12_isPlaced_180 : decode cX12_isPlaced 180 = .ok (.aload_n 0, 1) := by decide +kernel
theorem dX12_isPlaced_181 : decode cX12_isPlaced 181 = .ok (.getfield 22, 3) := by decide +kernel
theorem dX12_isPlaced_184 : decode cX12_isPlaced 184 = .ok (.iload_n 1, 1) := by decide +kernel
theorem dX12_isPlaced_185 : decode cX12_isPlaced 185 = .ok (.iload 4, 2) := by decide +kernel
theorem dX12_isPlaced_187 : decode cX12_isPlaced 187 = .ok (.iastore, 1) := by decide +kernel
theorem dX12_isPlaced_188 : decode cX12_isPlaced 188 = .ok (.aload_n 0, 1) := by decide +kernel
theorem dX12_isPlaced_189 : decode cX12_isPlaced 189 = .ok (.getfield 25, 3) := by decide +kernel
theorem dX12_isPlaced_192 : decode cX12_isPlaced 192 = .ok (.iload_n 1, 1) := by decide +kernel
theorem dX12_isPlaced_193 : decode cX12_isPlaced 193 = .ok (.iload 5, 2) := by decide +kernel
theorem dX12_isPlaced_195 : decode cX12_isPlaced 195 = .ok (.iastore, 1) := by decide +kernel
theorem dX12_isPlaced_196 : decode cX12_isPlaced 196 = .ok (.aload_n 0, 1) := by decide +kernel
theorem dX12_isPlaced_197 : decode cX12_isPlaced 197 = .ok (.getfield 28, 3) := by decide +kernel
theorem dX12_isPlaced_200 : decode cX12_isPlaced 200 = .ok (.iload_n 1, 1) := by decide +kernel
theorem dX12_isPlaced_201 : decode cX12_isPlaced 201 = .ok (.iconst 0, 1) := by decide +kernel
theorem dX12_isPlaced_202 : decode cX12_isPlaced 202 = .ok (.iastore, 1) := by decide +kernel
theorem dX12_isPlaced_203 : decode cX12_isPlaced 203 = .ok (.aload_n 0, 1) := by decide +kernel
theorem dX12_isPlaced_204 : decode cX12_isPlaced 204 = .ok (.getfield 31, 3) := by decide +kernel
theorem dX12_isPlaced_207 : decode cX12_isPlaced 207 = .ok (.iconst 3, 1) := by decide +kernel
theorem dX12_isPlaced_208 : decode cX12_isPlaced 208 = .ok (.iload 4, 2) := by decide +kernel
theorem dX12_isPlaced_210 : decode cX12_isPlaced 210 = .ok (.imul, 1) := by decide +kernel
theorem dX12_isPlaced_211 : decode cX12_isPlaced 211 = .ok (.iload 5, 2) := by decide +kernel
theorem dX12_isPlaced_213 : decode cX12_isPlaced 213 = .ok (.iadd, 1) := by decide +kernel
theorem dX12_isPlaced_214 : decode cX12_isPlaced 214 = .ok (.dup2, 1) := by decide +kernel
theorem dX12_isPlaced_215 : decode cX12_isPlaced 215 = .ok (.iaload, 1) := by decide +kernel
theorem dX12_isPlaced_216 : decode cX12_isPlaced 216 = .ok (.iconst 1, 1) := by decide +kernel
theorem dX12_isPlaced_217 : decode cX12_isPlaced 217 = .ok (.isub, 1) := by decide +kernel
theorem dX12_isPlaced_218 : decode cX12_isPlaced 218 = .ok (.iastore, 1) := by decide +kernel
theorem dX12_isPlaced_219 : decode cX12_isPlaced 219 = .ok (.iconst 1, 1) := by decide +kernel
theorem dX12_isPlaced_220 : decode cX12_isPlaced 220 = .ok (.ireturn, 1) := by decide +kernel
theorem dX12_isPlaced_221 : decode cX12_isPlaced 221 = .ok (.aload_n 0, 1) := by decide +kernel
theorem dX12_isPlaced_222 : decode cX12_isPlaced 222 = .ok (.getfield 3, 3) := by decide +kernel
theorem dX12_isPlaced_225 : decode cX12_isPlaced 225 = .ok (.getfield 102, 3) := by decide +kernel
theorem dX12_isPlaced_228 : decode cX12_isPlaced 228 = .ok (.iload_n 2, 1) := by decide +kernel
theorem dX12_isPlaced_229 : decode cX12_isPlaced 229 = .ok (.iaload, 1) := by decide +kernel
theorem dX12_isPlaced_230 : decode cX12_isPlaced 230 = .ok (.aload_n 0, 1) := by decide +kernel
theorem dX12_isPlaced_231 : decode cX12_isPlaced 231 = .ok (.getfield 3, 3) := by decide +kernel
theorem dX12_isPlaced_234 : decode cX12_isPlaced 234 = .ok (.getfield 105, 3) := by decide +kernel
theorem dX12_isPlaced_237 : decode cX12_isPlaced 237 = .ok (.iload_n 2, 1) := by decide +kernel
theorem dX12_isPlaced_238 : decode cX12_isPlaced 238 = .ok (.iaload, 1) := by decide +kernel
theorem dX12_isPlaced_239 : decode cX12_isPlaced 239 = .ok (.aload_n 0, 1) := by decide +kernel
theorem dX12_isPlaced_240 : decode cX12_isPlaced 240 = .ok (.getfield 3, 3) := by decide +kernel
theorem dX12_isPlaced_243 : decode cX12_isPlaced 243 = .ok (.getfield 102, 3) := by decide +kernel
theorem dX12_isPlaced_246 : decode cX12_isPlaced 246 = .ok (.iload 4, 2) := by decide +kernel
theorem dX12_isPlaced_248 : decode cX12_isPlaced 248 = .ok (.iaload, 1) := by decide +kernel
theorem dX12_isPlaced_249 : decode cX12_isPlaced 249 = .ok (.aload_n 0, 1) := by decide +kernel
theorem dX12_isPlaced_250 : decode cX12_isPlaced 250 = .ok (.getfield 3, 3) := by decide +kernel
theorem dX12_isPlaced_253 : decode cX12_isPlaced 253 = .ok (.getfield 105, 3) := by decide +kernel
theorem dX12_isPlaced_256 : decode cX12_isPlaced 256 = .ok (.iload 4, 2) := by decide +kernel
theorem dX12_isPlaced_258 : decode cX12_isPlaced 258 = .ok (.iaload, 1) := by decide +kernel
theorem dX12_isPlaced_259 : decode cX12_isPlaced 259 = .ok (.invokestatic 69, 3) := by decide +kernel
theorem dX12_isPlaced_262 : decode cX12_isPlaced 262 = .ok (.bipush 8, 2) := by decide +kernel
theorem dX12_isPlaced_264 : decode cX12_isPlaced 264 = .ok (.if_icmp .le 6, 3) := by decide +kernel
theorem dX12_isPlaced_267 : decode cX12_isPlaced 267 = .ok (.goto 66, 3) := by decide +kernel
theorem dX12_isPlaced_270 : decode cX12_isPlaced 270 = .ok (.aload_n 0, 1) := by decide +kernel
theorem dX12_isPlaced_271 : decode cX12_isPlaced 271 = .ok (.aload_n 0, 1) := by decide +kernel
theorem dX12_isPlaced_272 : decode cX12_isPlaced 272 = .ok (.getfield 3, 3) := by decide +kernel
theorem dX12_isPlaced_275 : decode cX12_isPlaced 275 = .ok (.getfield 102, 3) := by decide +kernel
theorem dX12_isPlaced_278 : decode cX12_isPlaced 278 = .ok (.iload 4, 2) := by decide +kernel
theorem dX12_isPlaced_280 : decode cX12_isPlaced 280 = .ok (.iaload, 1) := by decide +kernel
theorem dX12_isPlaced_281 : decode cX12_isPlaced 281 = .ok (.aload_n 0, 1) := by decide +kernel
theorem dX12_isPlaced_282 : decode cX12_isPlaced 282 = .ok (.getfield 3, 3) := by decide +kernel
theorem dX12_isPlaced_285 : decode cX12_isPlaced 285 = .ok (.getfield 105, 3) := by decide +kernel
theorem dX12_isPlaced_288 : decode cX12_isPlaced 288 = .ok (.iload 4, 2) := by decide +kernel
theorem dX12_isPlaced_290 : decode cX12_isPlaced 290 = .ok (.iaload, 1) := by decide +kernel
theorem dX12_isPlaced_291 : decode cX12_isPlaced 291 = .ok (.invokevirtual 80, 3) := by decide +kernel
theorem dX12_isPlaced_294 : decode cX12_isPlaced 294 = .ok (.aload_n 0, 1) := by decide +kernel
theorem dX12_isPlaced_295 : decode cX12_isPlaced 295 = .ok (.iload 4, 2) := by decide +kernel
theorem dX12_isPlaced_297 : decode cX12_isPlaced 297 = .ok (.invokevirtual 114, 3) := by decide +kernel
theorem dX12_isPlaced_300 : decode cX12_isPlaced 300 = .ok (.ifCond .ne 6, 3) := by decide +kernel
theorem dX12_isPlaced_303 : decode cX12_isPlaced 303 = .ok (.goto 30, 3) := by decide +kernel
theorem dX12_isPlaced_306 : decode cX12_isPlaced 306 = .ok (.aload_n 0, 1) := by decide +kernel
theorem dX12_isPlaced_307 : decode cX12_isPlaced 307 = .ok (.dup, 1) := by decide +kernel
theorem dX12_isPlaced_308 : decode cX12_isPlaced 308 = .ok (.getfield 60, 3) := by decide +kernel
theorem dX12_isPlaced_311 : decode cX12_isPlaced 311 = .ok (.iconst 2, 1) := by decide +kernel
theorem dX12_isPlaced_312 : decode cX12_isPlaced 312 = .ok (.iadd, 1) := by decide +kernel
theorem dX12_isPlaced_313 : decode cX12_isPlaced 313 = .ok (.putfield 60, 3) := by decide +kernel
theorem dX12_isPlaced_316 : decode cX12_isPlaced 316 = .ok (.aload_n 0, 1) := by decide +kernel
theorem dX12_isPlaced_317 : decode cX12_isPlaced 317 = .ok (.getfield 15, 3) := by decide +kernel
theorem dX12_isPlaced_320 : decode cX12_isPlaced 320 = .ok (.iload_n 1, 1) := by decide +kernel
theorem dX12_isPlaced_321 : decode cX12_isPlaced 321 = .ok (.iconst 3, 1) := by decide +kernel
theorem dX12_isPlaced_322 : decode cX12_isPlaced 322 = .ok (.iastore, 1) := by decide +kernel
theorem dX12_isPlaced_323 : decode cX12_isPlaced 323 = .ok (.aload_n 0, 1) := by decide +kernel
theorem dX12_isPlaced_324 : decode cX12_isPlaced 324 = .ok (.getfield 22, 3) := by decide +kernel
theorem dX12_isPlaced_327 : decode cX12_isPlaced 327 = .ok (.iload_n 1, 1) := by decide +kernel
theorem dX12_isPlaced_328 : decode cX12_isPlaced 328 = .ok (.iload 4, 2) := by decide +kernel
theorem dX12_isPlaced_330 : decode cX12_isPlaced 330 = .ok (.iastore, 1) := by decide +kernel
theorem dX12_isPlaced_331 : decode cX12_isPlaced 331 = .ok (.iconst 1, 1) := by decide +kernel
theorem dX12_isPlaced_332 : decode cX12_isPlaced 332 = .ok (.ireturn, 1) := by decide +kernel
theorem dX12_isPlaced_333 : decode cX12_isPlaced 333 = .ok (.iinc 3 1, 3) := by decide +kernel
theorem dX12_isPlaced_336 : decode cX12_isPlaced 336 = .ok (.goto (-324), 3) := by decide +kernel
theorem dX12_isPlaced_339 : decode cX12_isPlaced 339 = .ok (.iconst 0, 1) := by decide +kernel
theorem dX12_isPlaced_340 : decode cX12_isPlaced 340 = .ok (.ireturn, 1) := by decide +kernel
theorem dX12_isDone_0 : decode cX12_isDone 0 = .ok (.aload_n 0, 1) := by decide +kernel
theorem dX12_isDone_1 : decode cX12_isDone 1 = .ok (.getfield 3, 3) := by decide +kernel
theorem dX12_isDone_4 : decode cX12_isDone 4 = .ok (.getfield 87, 3) := by decide +kernel
theorem dX12_isDone_7 : decode cX12_isDone 7 = .ok (.iload_n 1, 1) := by decide +kernel
theorem dX12_isDone_8 : decode cX12_isDone 8 = .ok (.iaload, 1) := by decide +kernel
theorem dX12_isDone_9 : decode cX12_isDone 9 = .ok (.istore_n 2, 1) := by decide +kernel
theorem dX12_isDone_10 : decode cX12_isDone 10 = .ok (.aload_n 0, 1) := by decide +kernel
theorem dX12_isDone_11 : decode cX12_isDone 11 = .ok (.aload_n 0, 1) := by decide +kernel
theorem dX12_isDone_12 : decode cX12_isDone 12 = .ok (.getfield 3, 3) := by decide +kernel
theorem dX12_isDone_15 : decode cX12_isDone 15 = .ok (.getfield 102, 3) := by decide +kernel
theorem dX12_isDone_18 : decode cX12_isDone 18 = .ok (.iload_n 2, 1) := by decide +kernel
theorem dX12_isDone_19 : decode cX12_isDone 19 = .ok (.iaload, 1) := by decide +kernel
theorem dX12_isDone_20 : decode cX12_isDone 20 = .ok (.aload_n 0, 1) := by decide +kernel
theorem dX12_isDone_21 : decode cX12_isDone 21 = .ok (.getfield 3, 3) := by decide +kernel
theorem dX12_isDone_24 : decode cX12_isDone 24 = .ok (.getfield 105, 3) := by decide +kernel
theorem dX12_isDone_27 : decode cX12_isDone 27 = .ok (.iload_n 2, 1) := by decide +kernel
theorem dX12_isDone_28 : decode cX12_isDone 28 = .ok (.iaload, 1) := by decide +kernel
theorem dX12_isDone_29 : decode cX12_isDone 29 = .ok (.invokevirtual 118, 3) := by decide +kernel
theorem dX12_isDone_32 : decode cX12_isDone 32 = .ok (.aload_n 0, 1) := by decide +kernel
theorem dX12_isDone_33 : decode cX12_isDone 33 = .ok (.aload_n 0, 1) := by decide +kernel
theorem dX12_isDone_34 : decode cX12_isDone 34 = .ok (.getfield 60, 3) := by decide +kernel
theorem dX12_isDone_37 : decode cX12_isDone 37 = .ok (.aload_n 0, 1) := by decide +kernel
theorem dX12_isDone_38 : decode cX12_isDone 38 = .ok (.getfield 3, 3) := by decide +kernel
theorem dX12_isDone_41 : decode cX12_isDone 41 = .ok (.getfield 121, 3) := by decide +kernel
theorem dX12_isDone_44 : decode cX12_isDone 44 = .ok (.iload_n 1, 1) := by decide +kernel
theorem dX12_isDone_45 : decode cX12_isDone 45 = .ok (.iaload, 1) := by decide +kernel
theorem dX12_isDone_46 : decode cX12_isDone 46 = .ok (.invokestatic 124, 3) := by decide +kernel
theorem dX12_isDone_49 : decode cX12_isDone 49 = .ok (.putfield 60, 3) := by decide +kernel
theorem dX12_isDone_52 : decode cX12_isDone 52 = .ok (.aload_n 0, 1) := by decide +kernel
theorem dX12_isDone_53 : decode cX12_isDone 53 = .ok (.iload_n 2, 1) := by decide +kernel
theorem dX12_isDone_54 : decode cX12_isDone 54 = .ok (.invokevirtual 114, 3) := by decide +kernel
theorem dX12_isDone_57 : decode cX12_isDone 57 = .ok (.istore_n 3, 1) := by decide +kernel
theorem dX12_isDone_58 : decode cX12_isDone 58 = .ok (.aload_n 0, 1) := by decide +kernel
theorem dX12_isDone_59 : decode cX12_isDone 59 = .ok (.dup, 1) := by decide +kernel
theorem dX12_isDone_60 : decode cX12_isDone 60 = .ok (.getfield 60, 3) := by decide +kernel
theorem dX12_isDone_63 : decode cX12_isDone 63 = .ok (.iconst 4, 1) := by decide +kernel
theorem dX12_isDone_64 : decode cX12_isDone 64 = .ok (.iadd, 1) := by decide +kernel
theorem dX12_isDone_65 : decode cX12_isDone 65 = .ok (.putfield 60, 3) := by decide +kernel
theorem dX12_isDone_68 : decode cX12_isDone 68 = .ok (.iload_n 3, 1) := by decide +kernel
theorem dX12_isDone_69 : decode cX12_isDone 69 = .ok (.ifCond .eq 12, 3) := by decide +kernel
theorem dX12_isDone_72 : decode cX12_isDone 72 = .ok (.aload_n 0, 1) := by decide +kernel
theorem dX12_isDone_73 : decode cX12_isDone 73 = .ok (.getfield 15, 3) := by decide +kernel
theorem dX12_isDone_76 : decode cX12_isDone 76 = .ok (.iload_n 1, 1) := by decide +kernel
theorem dX12_isDone_77 : decode cX12_isDone 77 = .ok (.iconst 1, 1) := by decide +kernel
theorem dX12_isDone_78 : decode cX12_isDone 78 = .ok (.iastore, 1) := by decide +kernel
theorem dX12_isDone_79 : decode cX12_isDone 79 = .ok (.iconst 1, 1) := by decide +kernel
theorem dX12_isDone_80 : decode cX12_isDone 80 = .ok (.ireturn, 1) := by decide +kernel
theorem dX12_isDone_81 : decode cX12_isDone 81 = .ok (.aload_n 0, 1) := by decide +kernel
theorem dX12_isDone_82 : decode cX12_isDone 82 = .ok (.getfield 19, 3) := by decide +kernel
theorem dX12_isDone_85 : decode cX12_isDone 85 = .ok (.iload_n 1, 1) := by decide +kernel
theorem dX12_isDone_86 : decode cX12_isDone 86 = .ok (.dup2, 1) := by decide +kernel
theorem dX12_isDone_87 : decode cX12_isDone 87 = .ok (.iaload, 1) := by decide +kernel
theorem dX12_isDone_88 : decode cX12_isDone 88 = .ok (.iconst 1, 1) := by decide +kernel
theorem dX12_isDone_89 : decode cX12_isDone 89 = .ok (.iadd, 1) := by decide +kernel
theorem dX12_isDone_90 : decode cX12_isDone 90 = .ok (.iastore, 1) := by decide +kernel
theorem dX12_isDone_91 : decode cX12_isDone 91 = .ok (.aload_n 0, 1) := by decide +kernel
theorem dX12_isDone_92 : decode cX12_isDone 92 = .ok (.getfield 3, 3) := by decide +kernel
theorem dX12_isDone_95 : decode cX12_isDone 95 = .ok (.getfield 99, 3) := by decide +kernel
theorem dX12_isDone_98 : decode cX12_isDone 98 = .ok (.iload_n 1, 1) := by decide +kernel
theorem dX12_isDone_99 : decode cX12_isDone 99 = .ok (.iaload, 1) := by decide +kernel
theorem dX12_isDone_100 : decode cX12_isDone 100 = .ok (.iconst 2, 1) := by decide +kernel
theorem dX12_isDone_101 : decode cX12_isDone 101 = .ok (.if_icmp .eq 13, 3) := by decide +kernel
theorem dX12_isDone_104 : decode cX12_isDone 104 = .ok (.aload_n 0, 1) := by decide +kernel
theorem dX12_isDone_105 : decode cX12_isDone 105 = .ok (.iload_n 1, 1) := by decide +kernel
theorem dX12_isDone_106 : decode cX12_isDone 106 = .ok (.invokevirtual 129, 3) := by decide +kernel
theorem dX12_isDone_109 : decode cX12_isDone 109 = .ok (.ifCond .eq 5, 3) := by decide +kernel
theorem dX12_isDone_112 : decode cX12_isDone 112 = .ok (.iconst 1, 1) := by decide +kernel
theorem dX12_isDone_113 : decode cX12_isDone 113 = .ok (.ireturn, 1) := by decide +kernel
theorem dX12_isDone_114 : decode cX12_isDone 114 = .ok (.aload_n 0, 1) := by decide +kernel
theorem dX12_isDone_115 : decode cX12_isDone 115 = .ok (.getfield 19, 3) := by decide +kernel
theorem dX12_isDone_118 : decode cX12_isDone 118 = .ok (.iload_n 1, 1) := by decide +kernel
theorem dX12_isDone_119 : decode cX12_isDone 119 = .ok (.iaload, 1) := by decide +kernel
theorem dX12_isDone_120 : decode cX12_isDone 120 = .ok (.iconst 3, 1) := by decide +kernel
theorem dX12_isDone_121 : decode cX12_isDone 121 = .ok (.if_icmp .ne 10, 3) := by decide +kernel
theorem dX12_isDone_124 : decode cX12_isDone 124 = .ok (.aload_n 0, 1) := by decide +kernel
theorem dX12_isDone_125 : decode cX12_isDone 125 = .ok (.getfield 15, 3) := by decide +kernel
theorem dX12_isDone_128 : decode cX12_isDone 128 = .ok (.iload_n 1, 1) := by decide +kernel
theorem dX12_isDone_129 : decode cX12_isDone 129 = .ok (.iconst 4, 1) := by decide +kernel
theorem dX12_isDone_130 : decode cX12_isDone 130 = .ok (.iastore, 1) := by decide +kernel
theorem dX12_isDone_131 : decode cX12_isDone 131 = .ok (.iconst 0, 1) := by decide +kernel
theorem dX12_isDone_132 : decode cX12_isDone 132 = .ok (.ireturn, 1) := by decide +kernel
theorem dX12_open_0 : decode cX12_open 0 = .ok (.aload_n 0, 1) := by decide +kernel
theorem dX12_open_1 : decode cX12_open 1 = .ok (.getfield 31, 3) := by decide +kernel
theorem dX12_open_4 : decode cX12_open 4 = .ok (.iconst 3, 1) := by decide +kernel
theorem dX12_open_5 : decode cX12_open 5 = .ok (.aload_n 0, 1) := by decide +kernel
theorem dX12_open_6 : decode cX12_open 6 = .ok (.getfield 22, 3) := by decide +kernel
theorem dX12_open_9 : decode cX12_open 9 = .ok (.iload_n 1, 1) := by decide +kernel
theorem dX12_open_10 : decode cX12_open 10 = .ok (.iaload, 1) := by decide +kernel
theorem dX12_open_11 : decode cX12_open 11 = .ok (.imul, 1) := by decide +kernel
theorem dX12_open_12 : decode cX12_open 12 = .ok (.aload_n 0, 1) := by decide +kernel
theorem dX12_open_13 : decode cX12_open 13 = .ok (.getfield 25, 3) := by decide +kernel
theorem dX12_open_16 : decode cX12_open 16 = .ok (.iload_n 1, 1) := by decide +kernel
theorem dX12_open_17 : decode cX12_open 17 = .ok (.iaload, 1) := by decide +kernel
theorem dX12_open_18 : decode cX12_open 18 = .ok (.iadd, 1) := by decide +kernel
theorem dX12_open_19 : decode cX12_open 19 = .ok (.dup2, 1) := by decide +kernel
theorem dX12_open_20 : decode cX12_open 20 = .ok (.iaload, 1) := by decide +kernel
theorem dX12_open_21 : decode cX12_open 21 = .ok (.iconst 1, 1) := by decide +kernel
theorem dX12_open_22 : decode cX12_open 22 = .ok (.iadd, 1) := by decide +kernel
theorem dX12_open_23 : decode cX12_open 23 = .ok (.iastore, 1) := by decide +kernel
theorem dX12_open_24 : decode cX12_open 24 = .ok (.aload_n 0, 1) := by decide +kernel
theorem dX12_open_25 : decode cX12_open 25 = .ok (.getfield 22, 3) := by decide +kernel
theorem dX12_open_28 : decode cX12_open 28 = .ok (.iload_n 1, 1) := by decide +kernel
theorem dX12_open_29 : decode cX12_open 29 = .ok (.iconst (-1), 1) := by decide +kernel
theorem dX12_open_30 : decode cX12_open 30 = .ok (.iastore, 1) := by decide +kernel
theorem dX12_open_31 : decode cX12_open 31 = .ok (.aload_n 0, 1) := by decide +kernel
theorem dX12_open_32 : decode cX12_open 32 = .ok (.getfield 15, 3) := by decide +kernel
theorem dX12_open_35 : decode cX12_open 35 = .ok (.iload_n 1, 1) := by decide +kernel
theorem dX12_open_36 : decode cX12_open 36 = .ok (.iload_n 2, 1) := by decide +kernel
theorem dX12_open_37 : decode cX12_open 37 = .ok (.iastore, 1) := by decide +kernel
theorem dX12_open_38 : decode cX12_open 38 = .ok (.return_, 1) := by decide +kernel
theorem dX12_drive_0 : decode cX12_drive 0 = .ok (.iconst 0, 1) := by decide +kernel
theorem dX12_drive_1 : decode cX12_drive 1 = .ok (.istore_n 1, 1) := by decide +kernel
theorem dX12_drive_2 : decode cX12_drive 2 = .ok (.aload_n 0, 1) := by decide +kernel
theorem dX12_drive_3 : decode cX12_drive 3 = .ok (.iconst 0, 1) := by decide +kernel
theorem dX12_drive_4 : decode cX12_drive 4 = .ok (.putfield 132, 3) := by decide +kernel
theorem dX12_drive_7 : decode cX12_drive 7 = .ok (.iconst 0, 1) := by decide +kernel
theorem dX12_drive_8 : decode cX12_drive 8 = .ok (.istore_n 2, 1) := by decide +kernel
theorem dX12_drive_9 : decode cX12_drive 9 = .ok (.iload_n 2, 1) := by decide +kernel
theorem dX12_drive_10 : decode cX12_drive 10 = .ok (.aload_n 0, 1) := by decide +kernel
theorem dX12_drive_11 : decode cX12_drive 11 = .ok (.getfield 3, 3) := by decide +kernel
theorem dX12_drive_14 : decode cX12_drive 14 = .ok (.getfield 54, 3) := by decide +kernel
theorem dX12_drive_17 : decode cX12_drive 17 = .ok (.if_icmp .ge 155, 3) := by decide +kernel
theorem dX12_drive_20 : decode cX12_drive 20 = .ok (.aload_n 0, 1) := by decide +kernel
theorem dX12_drive_21 : decode cX12_drive 21 = .ok (.aload_n 0, 1) := by decide +kernel
theorem dX12_drive_22 : decode cX12_drive 22 = .ok (.getfield 3, 3) := by decide +kernel
theorem dX12_drive_25 : decode cX12_drive 25 = .ok (.getfield 135, 3) := by decide +kernel
theorem dX12_drive_28 : decode cX12_drive 28 = .ok (.iload_n 2, 1) := by decide +kernel
theorem dX12_drive_29 : decode cX12_drive 29 = .ok (.iaload, 1) := by decide +kernel
theorem dX12_drive_30 : decode cX12_drive 30 = .ok (.putfield 60, 3) := by decide +kernel
theorem dX12_drive_33 : decode cX12_drive 33 = .ok (.aload_n 0, 1) := by decide +kernel
theorem dX12_drive_34 : decode cX12_drive 34 = .ok (.aload_n 0, 1) := by decide +kernel
theorem dX12_drive_35 : decode cX12_drive 35 = .ok (.getfield 60, 3) := by decide +kernel
theorem dX12_drive_38 : decode cX12_drive 38 = .ok (.putfield 77, 3) := by decide +kernel
theorem dX12_drive_41 : decode cX12_drive 41 = .ok (.aload_n 0, 1) := by decide +kernel
theorem dX12_drive_42 : decode cX12_drive 42 = .ok (.aload_n 0, 1) := by decide +kernel
theorem dX12_drive_43 : decode cX12_drive 43 = .ok (.getfield 3, 3) := by decide +kernel
theorem dX12_drive_46 : decode cX12_drive 46 = .ok (.getfield 138, 3) := by decide +kernel
theorem dX12_drive_49 : decode cX12_drive 49 = .ok (.putfield 63, 3) := by decide +kernel
theorem dX12_drive_52 : decode cX12_drive 52 = .ok (.aload_n 0, 1) := by decide +kernel
theorem dX12_drive_53 : decode cX12_drive 53 = .ok (.aload_n 0, 1) := by decide +kernel
theorem dX12_drive_54 : decode cX12_drive 54 = .ok (.getfield 3, 3) := by decide +kernel
theorem dX12_drive_57 : decode cX12_drive 57 = .ok (.getfield 141, 3) := by decide +kernel
theorem dX12_drive_60 : decode cX12_drive 60 = .ok (.putfield 66, 3) := by decide +kernel
theorem dX12_drive_63 : decode cX12_drive 63 = .ok (.iconst 0, 1) := by decide +kernel
theorem dX12_drive_64 : decode cX12_drive 64 = .ok (.istore_n 3, 1) := by decide +kernel
theorem dX12_drive_65 : decode cX12_drive 65 = .ok (.iload_n 3, 1) := by decide +kernel
theorem dX12_drive_66 : decode cX12_drive 66 = .ok (.aload_n 0, 1) := by decide +kernel
theorem dX12_drive_67 : decode cX12_drive 67 = .ok (.getfield 34, 3) := by decide +kernel
theorem dX12_drive_70 : decode cX12_drive 70 = .ok (.iload_n 2, 1) := by decide +kernel
theorem dX12_drive_71 : decode cX12_drive 71 = .ok (.iaload, 1) := by decide +kernel
theorem dX12_drive_72 : decode cX12_drive 72 = .ok (.if_icmp .ge 54, 3) := by decide +kernel
theorem dX12_drive_75 : decode cX12_drive 75 = .ok (.aload_n 0, 1) := by decide +kernel
theorem dX12_drive_76 : decode cX12_drive 76 = .ok (.getfield 60, 3) := by decide +kernel
theorem dX12_drive_79 : decode cX12_drive 79 = .ok (.aload_n 0, 1) := by decide +kernel
theorem dX12_drive_80 : decode cX12_drive 80 = .ok (.getfield 3, 3) := by decide +kernel
theorem dX12_drive_83 : decode cX12_drive 83 = .ok (.getfield 144, 3) := by decide +kernel
theorem dX12_drive_86 : decode cX12_drive 86 = .ok (.iload_n 2, 1) := by decide +kernel
theorem dX12_drive_87 : decode cX12_drive 87 = .ok (.iaload, 1) := by decide +kernel
theorem dX12_drive_88 : decode cX12_drive 88 = .ok (.bipush 60, 2) := by decide +kernel
theorem dX12_drive_90 : decode cX12_drive 90 = .ok (.iadd, 1) := by decide +kernel
theorem dX12_drive_91 : decode cX12_drive 91 = .ok (.if_icmp .gt 35, 3) := by decide +kernel
theorem dX12_drive_94 : decode cX12_drive 94 = .ok (.iload_n 1, 1) := by decide +kernel
theorem dX12_drive_95 : decode cX12_drive 95 = .ok (.aload_n 0, 1) := by decide +kernel
theorem dX12_drive_96 : decode cX12_drive 96 = .ok (.aload_n 0, 1) := by decide +kernel
theorem dX12_drive_97 : decode cX12_drive 97 = .ok (.getfield 37, 3) := by decide +kernel
theorem dX12_drive_100 : decode cX12_drive 100 = .ok (.bipush 12, 2) := by decide +kernel
theorem dX12_drive_102 : decode cX12_drive 102 = .ok (.iload_n 2, 1) := by decide +kernel
theorem dX12_drive_103 : decode cX12_drive 103 = .ok (.imul, 1) := by decide +kernel
theorem dX12_drive_104 : decode cX12_drive 104 = .ok (.iload_n 3, 1) := by decide +kernel
theorem dX12_drive_105 : decode cX12_drive 105 = .ok (.iadd, 1) := by decide +kernel
theorem dX12_drive_106 : decode cX12_drive 106 = .ok (.iaload, 1) := by decide +kernel
theorem dX12_drive_107 : decode cX12_drive 107 = .ok (.invokevirtual 147, 3) := by decide +kernel
theorem dX12_drive_110 : decode cX12_drive 110 = .ok (.ifCond .eq 7, 3) := by decide +kernel
theorem dX12_drive_113 : decode cX12_drive 113 = .ok (.iconst 1, 1) := by decide +kernel
theorem dX12_drive_114 : decode cX12_drive 114 = .ok (.goto 4, 3) := by decide +kernel
theorem dX12_drive_117 : decode cX12_drive 117 = .ok (.iconst 0, 1) := by decide +kernel
theorem dX12_drive_118 : decode cX12_drive 118 = .ok (.iadd, 1) := by decide +kernel
theorem dX12_drive_119 : decode cX12_drive 119 = .ok (.istore_n 1, 1) := by decide +kernel
theorem dX12_drive_120 : decode cX12_drive 120 = .ok (.iinc 3 1, 3) := by decide +kernel
theorem dX12_drive_123 : decode cX12_drive 123 = .ok (.goto (-58), 3) := by decide +kernel
theorem dX12_drive_126 : decode cX12_drive 126 = .ok (.aload_n 0, 1) := by decide +kernel
theorem dX12_drive_127 : decode cX12_drive 127 = .ok (.aload_n 0, 1) := by decide +kernel
theorem dX12_drive_128 : decode cX12_drive 128 = .ok (.getfield 3, 3) := by decide +kernel
theorem dX12_drive_131 : decode cX12_drive 131 = .ok (.getfield 138, 3) := by decide +kernel
theorem dX12_drive_134 : decode cX12_drive 134 = .ok (.aload_n 0, 1) := by decide +kernel
theorem dX12_drive_135 : decode cX12_drive 135 = .ok (.getfield 3, 3) := by decide +kernel
theorem dX12_drive_138 : decode cX12_drive 138 = .ok (.getfield 141, 3) := by decide +kernel
theorem dX12_drive_141 : decode cX12_drive 141 = .ok (.invokevirtual 118, 3) := by decide +kernel
theorem dX12_drive_144 : decode cX12_drive 144 = .ok (.aload_n 0, 1) := by decide +kernel
theorem dX12_drive_145 : decode cX12_drive 145 = .ok (.aload_n 0, 1) := by decide +kernel
theorem dX12_drive_146 : decode cX12_drive 146 = .ok (.getfield 132, 3) := by decide +kernel
theorem dX12_drive_149 : decode cX12_drive 149 = .ok (.aload_n 0, 1) := by decide +kernel
theorem dX12_drive_150 : decode cX12_drive 150 = .ok (.getfield 60, 3) := by decide +kernel
theorem dX12_drive_153 : decode cX12_drive 153 = .ok (.invokestatic 124, 3) := by decide +kernel
theorem dX12_drive_156 : decode cX12_drive 156 = .ok (.putfield 132, 3) := by decide +kernel
theorem dX12_drive_159 : decode cX12_drive 159 = .ok (.aload_n 0, 1) := by decide +kernel
theorem dX12_drive_160 : decode cX12_drive 160 = .ok (.getfield 34, 3) := by decide +kernel
theorem dX12_drive_163 : decode cX12_drive 163 = .ok (.iload_n 2, 1) := by decide +kernel
theorem dX12_drive_164 : decode cX12_drive 164 = .ok (.iconst 0, 1) := by decide +kernel
theorem dX12_drive_165 : decode cX12_drive 165 = .ok (.iastore, 1) := by decide +kernel
theorem dX12_drive_166 : decode cX12_drive 166 = .ok (.iinc 2 1, 3) := by decide +kernel
theorem dX12_drive_169 : decode cX12_drive 169 = .ok (.goto (-160), 3) := by decide +kernel
theorem dX12_drive_172 : decode cX12_drive 172 = .ok (.iconst 0, 1) := by decide +kernel
theorem dX12_drive_173 : decode cX12_drive 173 = .ok (.istore_n 2, 1) := by decide +kernel
theorem dX12_drive_174 : decode cX12_drive 174 = .ok (.iload_n 2, 1) := by decide +kernel
theorem dX12_drive_175 : decode cX12_drive 175 = .ok (.aload_n 0, 1) := by decide +kernel
theorem dX12_drive_176 : decode cX12_drive 176 = .ok (.getfield 3, 3) := by decide +kernel
theorem dX12_drive_179 : decode cX12_drive 179 = .ok (.getfield 150, 3) := by decide +kernel
theorem dX12_drive_182 : decode cX12_drive 182 = .ok (.if_icmp .ge 127, 3) := by decide +kernel
theorem dX12_drive_185 : decode cX12_drive 185 = .ok (.aload_n 0, 1) := by decide +kernel
theorem dX12_drive_186 : decode cX12_drive 186 = .ok (.getfield 15, 3) := by decide +kernel
theorem dX12_drive_189 : decode cX12_drive 189 = .ok (.iload_n 2, 1) := by decide +kernel
theorem dX12_drive_190 : decode cX12_drive 190 = .ok (.iaload, 1) := by decide +kernel
theorem dX12_drive_191 : decode cX12_drive 191 = .ok (.iconst 2, 1) := by decide +kernel
theorem dX12_drive_192 : decode cX12_drive 192 = .ok (.if_icmp .eq 6, 3) := by decide +kernel
theorem dX12_drive_195 : decode cX12_drive 195 = .ok (.goto 108, 3) := by decide +kernel
theorem dX12_drive_198 : decode cX12_drive 198 = .ok (.aload_n 0, 1) := by decide +kernel
theorem dX12_drive_199 : decode cX12_drive 199 = .ok (.getfield 28, 3) := by decide +kernel
theorem dX12_drive_202 : decode cX12_drive 202 = .ok (.iload_n 2, 1) := by decide +kernel
theorem dX12_drive_203 : decode cX12_drive 203 = .ok (.dup2, 1) := by decide +kernel
theorem dX12_drive_204 : decode cX12_drive 204 = .ok (.iaload, 1) := by decide +kernel
theorem dX12_drive_205 : decode cX12_drive 205 = .ok (.iconst 1, 1) := by decide +kernel
theorem dX12_drive_206 : decode cX12_drive 206 = .ok (.iadd, 1) := by decide +kernel
theorem dX12_drive_207 : decode cX12_drive 207 = .ok (.iastore, 1) := by decide +kernel
theorem dX12_drive_208 : decode cX12_drive 208 = .ok (.aload_n 0, 1) := by decide +kernel
theorem dX12_drive_209 : decode cX12_drive 209 = .ok (.getfield 3, 3) := by decide +kernel
theorem dX12_drive_212 : decode cX12_drive 212 = .ok (.getfield 102, 3) := by decide +kernel
theorem dX12_drive_215 : decode cX12_drive 215 = .ok (.aload_n 0, 1) := by decide +kernel
theorem dX12_drive_216 : decode cX12_drive 216 = .ok (.getfield 3, 3) := by decide +kernel
theorem dX12_drive_219 : decode cX12_drive 219 = .ok (.getfield 87, 3) := by decide +kernel
theorem dX12_drive_222 : decode cX12_drive 222 = .ok (.iload_n 2, 1) := by decide +kernel
theorem dX12_drive_223 : decode cX12_drive 223 = .ok (.iaload, 1) := by decide +kernel
theorem dX12_drive_224 : decode cX12_drive 224 = .ok (.iaload, 1) := by decide +kernel
theorem dX12_drive_225 : decode cX12_drive 225 = .ok (.aload_n 0, 1) := by decide +kernel
theorem dX12_drive_226 : decode cX12_drive 226 = .ok (.getfield 3, 3) := by decide +kernel
theorem dX12_drive_229 : decode cX12_drive 229 = .ok (.getfield 105, 3) := by decide +kernel
theorem dX12_drive_232 : decode cX12_drive 232 = .ok (.aload_n 0, 1) := by decide +kernel
theorem dX12_drive_233 : decode cX12_drive 233 = .ok (.getfield 3, 3) := by decide +kernel
theorem dX12_drive_236 : decode cX12_drive 236 = .ok (.getfield 87, 3) := by decide +kernel
theorem dX12_drive_239 : decode cX12_drive 239 = .ok (.iload_n 2, 1) := by decide +kernel
theorem dX12_drive_240 : decode cX12_drive 240 = .ok (.iaload, 1) := by decide +kernel
theorem dX12_drive_241 : decode cX12_drive 241 = .ok (.iaload, 1) := by decide +kernel
theorem dX12_drive_242 : decode cX12_drive 242 = .ok (.aload_n 0, 1) := by decide +kernel
theorem dX12_drive_243 : decode cX12_drive 243 = .ok (.getfield 3, 3) := by decide +kernel
theorem dX12_drive_246 : decode cX12_drive 246 = .ok (.getfield 108, 3) := by decide +kernel
theorem dX12_drive_249 : decode cX12_drive 249 = .ok (.aload_n 0, 1) := by decide +kernel
theorem dX12_drive_250 : decode cX12_drive 250 = .ok (.getfield 22, 3) := by decide +kernel
theorem dX12_drive_253 : decode cX12_drive 253 = .ok (.iload_n 2, 1) := by decide +kernel
theorem dX12_drive_254 : decode cX12_drive 254 = .ok (.iaload, 1) := by decide +kernel
theorem dX12_drive_255 : decode cX12_drive 255 = .ok (.iaload, 1) := by decide +kernel
theorem dX12_drive_256 : decode cX12_drive 256 = .ok (.aload_n 0, 1) := by decide +kernel
theorem dX12_drive_257 : decode cX12_drive 257 = .ok (.getfield 3, 3) := by decide +kernel
theorem dX12_drive_260 : decode cX12_drive 260 = .ok (.getfield 111, 3) := by decide +kernel
theorem dX12_drive_263 : decode cX12_drive 263 = .ok (.aload_n 0, 1) := by decide +kernel
theorem dX12_drive_264 : decode cX12_drive 264 = .ok (.getfield 22, 3) := by decide +kernel
theorem dX12_drive_267 : decode cX12_drive 267 = .ok (.iload_n 2, 1) := by decide +kernel
theorem dX12_drive_268 : decode cX12_drive 268 = .ok (.iaload, 1) := by decide +kernel
theorem dX12_drive_269 : decode cX12_drive 269 = .ok (.iaload, 1) := by decide +kernel
theorem dX12_drive_270 : decode cX12_drive 270 = .ok (.invokestatic 69, 3) := by decide +kernel
theorem dX12_drive_273 : decode cX12_drive 273 = .ok (.bipush 10, 2) := by decide +kernel
theorem dX12_drive_275 : decode cX12_drive 275 = .ok (.if_icmp .gt 12, 3) := by decide +kernel
theorem dX12_drive_278 : decode cX12_drive 278 = .ok (.aload_n 0, 1) := by decide +kernel
theorem dX12_drive_279 : decode cX12_drive 279 = .ok (.iload_n 2, 1) := by decide +kernel
theorem dX12_drive_280 : decode cX12_drive 280 = .ok (.iconst 1, 1) := by decide +kernel
theorem dX12_drive_281 : decode cX12_drive 281 = .ok (.invokevirtual 153, 3) := by decide +kernel
theorem dX12_drive_284 : decode cX12_drive 284 = .ok (.goto 19, 3) := by decide +kernel
theorem dX12_drive_287 : decode cX12_drive 287 = .ok (.aload_n 0, 1) := by decide +kernel
theorem dX12_drive_288 : decode cX12_drive 288 = .ok (.getfield 28, 3) := by decide +kernel
theorem dX12_drive_291 : decode cX12_drive 291 = .ok (.iload_n 2, 1) := by decide +kernel
theorem dX12_drive_292 : decode cX12_drive 292 = .ok (.iaload, 1) := by decide +kernel
theorem dX12_drive_293 : decode cX12_drive 293 = .ok (.iconst 3, 1) := by decide +kernel
theorem dX12_drive_294 : decode cX12_drive 294 = .ok (.if_icmp .ne 9, 3) := by decide +kernel
theorem dX12_drive_297 : decode cX12_drive 297 = .ok (.aload_n 0, 1) := by decide +kernel
theorem dX12_drive_298 : decode cX12_drive 298 = .ok (.iload_n 2, 1) := by decide +kernel
theorem dX12_drive_299 : decode cX12_drive 299 = .ok (.iconst 4, 1) := by decide +kernel
theorem dX12_drive_300 : decode cX12_drive 300 = .ok (.invokevirtual 153, 3) := by decide +kernel
theorem dX12_drive_303 : decode cX12_drive 303 = .ok (.iinc 2 1, 3) := by decide +kernel
theorem dX12_drive_306 : decode cX12_drive 306 = .ok (.goto (-132), 3) := by decide +kernel
theorem dX12_drive_309 : decode cX12_drive 309 = .ok (.aload_n 0, 1) := by decide +kernel
theorem dX12_drive_310 : decode cX12_drive 310 = .ok (.dup, 1) := by decide +kernel
theorem dX12_drive_311 : decode cX12_drive 311 = .ok (.getfield 46, 3) := by decide +kernel
theorem dX12_drive_314 : decode cX12_drive 314 = .ok (.iconst 1, 1) := by decide +kernel
theorem dX12_drive_315 : decode cX12_drive 315 = .ok (.iadd, 1) := by decide +kernel
theorem dX12_drive_316 : decode cX12_drive 316 = .ok (.putfield 46, 3) := by decide +kernel
theorem dX12_drive_319 : decode cX12_drive 319 = .ok (.iload_n 1, 1) := by decide +kernel
theorem dX12_drive_320 : decode cX12_drive 320 = .ok (.ireturn, 1) := by decide +kernel
theorem dX12_how_0 : decode cX12_how 0 = .ok (.iconst 0, 1) := by decide +kernel
theorem dX12_how_1 : decode cX12_how 1 = .ok (.istore_n 2, 1) := by decide +kernel
theorem dX12_how_2 : decode cX12_how 2 = .ok (.iconst 0, 1) := by decide +kernel
theorem dX12_how_3 : decode cX12_how 3 = .ok (.istore_n 3, 1) := by decide +kernel
theorem dX12_how_4 : decode cX12_how 4 = .ok (.iload_n 3, 1) := by decide +kernel
theorem dX12_how_5 : decode cX12_how 5 = .ok (.aload_n 0, 1) := by decide +kernel
theorem dX12_how_6 : decode cX12_how 6 = .ok (.getfield 3, 3) := by decide +kernel
theorem dX12_how_9 : decode cX12_how 9 = .ok (.getfield 150, 3) := by decide +kernel
theorem dX12_how_12 : decode cX12_how 12 = .ok (.if_icmp .ge 27, 3) := by decide +kernel
theorem dX12_how_15 : decode cX12_how 15 = .ok (.iload_n 2, 1) := by decide +kernel
theorem dX12_how_16 : decode cX12_how 16 = .ok (.aload_n 0, 1) := by decide +kernel
theorem dX12_how_17 : decode cX12_how 17 = .ok (.getfield 15, 3) := by decide +kernel
theorem dX12_how_20 : decode cX12_how 20 = .ok (.iload_n 3, 1) := by decide +kernel
theorem dX12_how_21 : decode cX12_how 21 = .ok (.iaload, 1) := by decide +kernel
theorem dX12_how_22 : decode cX12_how 22 = .ok (.iload_n 1, 1) := by decide +kernel
theorem dX12_how_23 : decode cX12_how 23 = .ok (.if_icmp .ne 7, 3) := by decide +kernel
theorem dX12_how_26 : decode cX12_how 26 = .ok (.iconst 1, 1) := by decide +kernel
theorem dX12_how_27 : decode cX12_how 27 = .ok (.goto 4, 3) := by decide +kernel
theorem dX12_how_30 : decode cX12_how 30 = .ok (.iconst 0, 1) := by decide +kernel
theorem dX12_how_31 : decode cX12_how 31 = .ok (.iadd, 1) := by decide +kernel
theorem dX12_how_32 : decode cX12_how 32 = .ok (.istore_n 2, 1) := by decide +kernel
theorem dX12_how_33 : decode cX12_how 33 = .ok (.iinc 3 1, 3) := by decide +kernel
theorem dX12_how_36 : decode cX12_how 36 = .ok (.goto (-32), 3) := by decide +kernel
theorem dX12_how_39 : decode cX12_how 39 = .ok (.iload_n 2, 1) := by decide +kernel
theorem dX12_how_40 : decode cX12_how 40 = .ok (.ireturn, 1) := by decide +kernel
section BL
variable {p : Program} {l : Launch} {e : Env} {s : State} {m : MethodId} {args : Array Value} {below : List Frame} {meth : Method} {c : Code} {w : Wd} {S : St}
theorem bX12_init_0 (B : Bd p s m args meth c cX12_init 2 (wsOf yX12_init cX12_init 2 none) RX12 w none "<init>") {v0 : Nat} {v1 : Nat} {k n : Nat} {Q : State → Prop} (h1 : kd S v0 = 14) (h2 : k + 1 ≤ rX12_init.cells) (h3 : n + 30 ≤ rX12_init.slots) (kk : ∀ q12 : Nat, kd (sP S 846 v0 (some v1)) q12 = 0 → K p l e rX12_init s m args below meth c 2 w (k + 1) (n + 30) Q (nw (sP S 846 v0 (some v1)) q12 21 30) 14 [(0, .ref v0)] [.ref q12, .ref v0]) : K p l e rX12_init s m args below meth c 2 w k n Q S 0 [(0, .ref v0), (1, .ref v1)] [] := by
  refine k_aload_n B 0 rfl rfl dX12_init_0 ?_
  refine k_aload_n B 1 rfl rfl dX12_init_1 ?_
  refine k_putPF (f := 846) (v := some v1) B 13 14 rfl (by decide) rfl (by decide) rfl rfl (fun w h => in_of (uw_13 w h)) (in_of qfRX12_3) tyX12 tyX12_ok nmX12 rfl rfl rfl (tyX12_ok 14 (by decide)) rfl rfl dX12_init_2 h1 ?_
  refine k_aload_n B 0 rfl rfl dX12_init_5 ?_
  refine k_objInit B (in_of qlRX12_9) (in_of qi_obj) (in_of qc_obj) (Nat.le_of_ble_eq_true rfl) (Nat.le_of_ble_eq_true rfl) dX12_init_6 ?_
  refine k_aload_n B 0 rfl rfl dX12_init_9 ?_
  refine k_bipush (v := 30) B (by decide) dX12_init_10 ?_
  refine k_newI (N' := 30) B (in_of qarrI) (by decide) (by decide) (by decide) h2 h3 dX12_init_12 (fun q12 f12 => ?_)
  refine k_sub [0] rfl ?_
  exact kk q12 f12
theorem bX12_init_14 (B : Bd p s m args meth c cX12_init 2 (wsOf yX12_init cX12_init 2 none) RX12 w none "<init>") {v0 : Nat} {t0 : Nat} {t1 : Nat} {k n : Nat} {Q : State → Prop} (h1 : kd S t0 = 14) (h2 : k + 1 ≤ rX12_init.cells) (h3 : n + 30 ≤ rX12_init.slots) (kk : ∀ q20 : Nat, kd (sP S 834 t0 (some t1)) q20 = 0 → K p l e rX12_init s m args below meth c 2 w (k + 1) (n + 30) Q (nw (sP S 834 t0 (some t1)) q20 21 30) 22 [(0, .ref v0)] [.ref q20, .ref v0]) : K p l e rX12_init s m args below meth c 2 w k n Q S 14 [(0, .ref v0)] [.ref t1, .ref t0] := by
  refine k_putPF (f := 834) (v := some t1) B 13 2 rfl (by decide) rfl (by decide) rfl rfl (fun w h => in_of (uw_13 w h)) (in_of qfRX12_15) tyX12 tyX12_ok nmX12 rfl rfl rfl (tyX12_ok 2 (by decide)) rfl rfl dX12_init_14 h1 ?_
  refine k_aload_n B 0 rfl rfl dX12_init_17 ?_
  refine k_bipush (v := 30) B (by decide) dX12_init_18 ?_
  refine k_newI (N' := 30) B (in_of qarrI) (by decide) (by decide) (by decide) h2 h3 dX12_init_20 (fun q20 f20 => ?_)
  exact kk q20 f20
theorem bX12_init_22 (B : Bd p s m args meth c cX12_init 2 (wsOf yX12_init cX12_init 2 none) RX12 w none "<init>") {v0 : Nat} {t0 : Nat} {t1 : Nat} {k n : Nat} {Q : State → Prop} (h1 : kd S t0 = 14) (h2 : k + 1 ≤ rX12_init.cells) (h3 : n + 30 ≤ rX12_init.slots) (kk : ∀ q28 : Nat, kd (sP S 835 t0 (some t1)) q28 = 0 → K p l e rX12_init s m args below meth c 2 w (k + 1) (n + 30) Q (nw (sP S 835 t0 (some t1)) q28 21 30) 30 [(0, .ref v0)] [.ref q28, .ref v0]) : K p l e rX12_init s m args below meth c 2 w k n Q S 22 [(0, .ref v0)] [.ref t1, .ref t0] := by
  refine k_putPF (f := 835) (v := some t1) B 13 3 rfl (by decide) rfl (by decide) rfl rfl (fun w h => in_of (uw_13 w h)) (in_of qfRX12_19) tyX12 tyX12_ok nmX12 rfl rfl rfl (tyX12_ok 3 (by decide)) rfl rfl dX12_init_22 h1 ?_
  refine k_aload_n B 0 rfl rfl dX12_init_25 ?_
  refine k_bipush (v := 30) B (by decide) dX12_init_26 ?_
  refine k_newI (N' := 30) B (in_of qarrI) (by decide) (by decide) (by decide) h2 h3 dX12_init_28 (fun q28 f28 => ?_)
  exact kk q28 f28
theorem bX12_init_30 (B : Bd p s m args meth c cX12_init 2 (wsOf yX12_init cX12_init 2 none) RX12 w none "<init>") {v0 : Nat} {t0 : Nat} {t1 : Nat} {k n : Nat} {Q : State → Prop} (h1 : kd S t0 = 14) (h2 : k + 1 ≤ rX12_init.cells) (h3 : n + 30 ≤ rX12_init.slots) (kk : ∀ q36 : Nat, kd (sP S 836 t0 (some t1)) q36 = 0 → K p l e rX12_init s m args below meth c 2 w (k + 1) (n + 30) Q (nw (sP S 836 t0 (some t1)) q36 21 30) 38 [(0, .ref v0)] [.ref q36, .ref v0]) : K p l e rX12_init s m args below meth c 2 w k n Q S 30 [(0, .ref v0)] [.ref t1, .ref t0] := by
  refine k_putPF (f := 836) (v := some t1) B 13 4 rfl (by decide) rfl (by decide) rfl rfl (fun w h => in_of (uw_13 w h)) (in_of qfRX12_22) tyX12 tyX12_ok nmX12 rfl rfl rfl (tyX12_ok 4 (by decide)) rfl rfl dX12_init_30 h1 ?_
  refine k_aload_n B 0 rfl rfl dX12_init_33 ?_
  refine k_bipush (v := 30) B (by decide) dX12_init_34 ?_
  refine k_newI (N' := 30) B (in_of qarrI) (by decide) (by decide) (by decide) h2 h3 dX12_init_36 (fun q36 f36 => ?_)
  exact kk q36 f36
theorem bX12_init_38 (B : Bd p s m args meth c cX12_init 2 (wsOf yX12_init cX12_init 2 none) RX12 w none "<init>") {v0 : Nat} {t0 : Nat} {t1 : Nat} {k n : Nat} {Q : State → Prop} (h1 : kd S t0 = 14) (h2 : k + 1 ≤ rX12_init.cells) (h3 : n + 30 ≤ rX12_init.slots) (kk : ∀ q44 : Nat, kd (sP S 837 t0 (some t1)) q44 = 0 → K p l e rX12_init s m args below meth c 2 w (k + 1) (n + 30) Q (nw (sP S 837 t0 (some t1)) q44 21 30) 46 [(0, .ref v0)] [.ref q44, .ref v0]) : K p l e rX12_init s m args below meth c 2 w k n Q S 38 [(0, .ref v0)] [.ref t1, .ref t0] := by
  refine k_putPF (f := 837) (v := some t1) B 13 5 rfl (by decide) rfl (by decide) rfl rfl (fun w h => in_of (uw_13 w h)) (in_of qfRX12_25) tyX12 tyX12_ok nmX12 rfl rfl rfl (tyX12_ok 5 (by decide)) rfl rfl dX12_init_38 h1 ?_
  refine k_aload_n B 0 rfl rfl dX12_init_41 ?_
  refine k_bipush (v := 30) B (by decide) dX12_init_42 ?_
  refine k_newI (N' := 30) B (in_of qarrI) (by decide) (by decide) (by decide) h2 h3 dX12_init_44 (fun q44 f44 => ?_)
  exact kk q44 f44
theorem bX12_init_46 (B : Bd p s m args meth c cX12_init 2 (wsOf yX12_init cX12_init 2 none) RX12 w none "<init>") {v0 : Nat} {t0 : Nat} {t1 : Nat} {k n : Nat} {Q : State → Prop} (h1 : kd S t0 = 14) (h2 : k + 1 ≤ rX12_init.cells) (h3 : n + 12 ≤ rX12_init.slots) (kk : ∀ q52 : Nat, kd (sP S 838 t0 (some t1)) q52 = 0 → K p l e rX12_init s m args below meth c 2 w (k + 1) (n + 12) Q (nw (sP S 838 t0 (some t1)) q52 21 12) 54 [(0, .ref v0)] [.ref q52, .ref v0]) : K p l e rX12_init s m args below meth c 2 w k n Q S 46 [(0, .ref v0)] [.ref t1, .ref t0] := by
  refine k_putPF (f := 838) (v := some t1) B 13 6 rfl (by decide) rfl (by decide) rfl rfl (fun w h => in_of (uw_13 w h)) (in_of qfRX12_28) tyX12 tyX12_ok nmX12 rfl rfl rfl (tyX12_ok 6 (by decide)) rfl rfl dX12_init_46 h1 ?_
  refine k_aload_n B 0 rfl rfl dX12_init_49 ?_
  refine k_bipush (v := 12) B (by decide) dX12_init_50 ?_
  refine k_newI (N' := 12) B (in_of qarrI) (by decide) (by decide) (by decide) h2 h3 dX12_init_52 (fun q52 f52 => ?_)
  exact kk q52 f52
theorem bX12_init_54 (B : Bd p s m args meth c cX12_init 2 (wsOf yX12_init cX12_init 2 none) RX12 w none "<init>") {v0 : Nat} {t0 : Nat} {t1 : Nat} {k n : Nat} {Q : State → Prop} (h1 : kd S t0 = 14) (h2 : k + 1 ≤ rX12_init.cells) (h3 : n + 4 ≤ rX12_init.slots) (kk : ∀ q59 : Nat, kd (sP S 839 t0 (some t1)) q59 = 0 → K p l e rX12_init s m args below meth c 2 w (k + 1) (n + 4) Q (nw (sP S 839 t0 (some t1)) q59 21 4) 61 [(0, .ref v0)] [.ref q59, .ref v0]) : K p l e rX12_init s m args below meth c 2 w k n Q S 54 [(0, .ref v0)] [.ref t1, .ref t0] := by
  refine k_putPF (f := 839) (v := some t1) B 13 7 rfl (by decide) rfl (by decide) rfl rfl (fun w h => in_of (uw_13 w h)) (in_of qfRX12_31) tyX12 tyX12_ok nmX12 rfl rfl rfl (tyX12_ok 7 (by decide)) rfl rfl dX12_init_54 h1 ?_
  refine k_aload_n B 0 rfl rfl dX12_init_57 ?_
  refine k_iconst (v := 4) B (by decide) dX12_init_58 ?_
  refine k_newI (N' := 4) B (in_of qarrI) (by decide) (by decide) (by decide) h2 h3 dX12_init_59 (fun q59 f59 => ?_)
  exact kk q59 f59
theorem bX12_init_61 (B : Bd p s m args meth c cX12_init 2 (wsOf yX12_init cX12_init 2 none) RX12 w none "<init>") {v0 : Nat} {t0 : Nat} {t1 : Nat} {k n : Nat} {Q : State → Prop} (h1 : kd S t0 = 14) (h2 : k + 1 ≤ rX12_init.cells) (h3 : n + 48 ≤ rX12_init.slots) (kk : ∀ q67 : Nat, kd (sP S 840 t0 (some t1)) q67 = 0 → K p l e rX12_init s m args below meth c 2 w (k + 1) (n + 48) Q (nw (sP S 840 t0 (some t1)) q67 21 48) 69 [] [.ref q67, .ref v0]) : K p l e rX12_init s m args below meth c 2 w k n Q S 61 [(0, .ref v0)] [.ref t1, .ref t0] := by
  refine k_putPF (f := 840) (v := some t1) B 13 8 rfl (by decide) rfl (by decide) rfl rfl (fun w h => in_of (uw_13 w h)) (in_of qfRX12_34) tyX12 tyX12_ok nmX12 rfl rfl rfl (tyX12_ok 8 (by decide)) rfl rfl dX12_init_61 h1 ?_
  refine k_aload_n B 0 rfl rfl dX12_init_64 ?_
  refine k_bipush (v := 48) B (by decide) dX12_init_65 ?_
  refine k_newI (N' := 48) B (in_of qarrI) (by decide) (by decide) (by decide) h2 h3 dX12_init_67 (fun q67 f67 => ?_)
  refine k_sub [] rfl ?_
  exact kk q67 f67
theorem bX12_init_69 (B : Bd p s m args meth c cX12_init 2 (wsOf yX12_init cX12_init 2 none) RX12 w none "<init>") {t0 : Nat} {t1 : Nat} {post : St → Prop} {k n : Nat} (h1 : kd S t0 = 14) (hq : post (sP S 841 t0 (some t1))) : K p l e rX12_init s m args below meth c 2 w k n (MQ below (va_Qv post (fun S' t => Hd w S' t.heap) (wA w)) args s k n (wA w)) S 69 [] [.ref t1, .ref t0] := by
  refine k_putPF (f := 841) (v := some t1) B 13 9 rfl (by decide) rfl (by decide) rfl rfl (fun w h => in_of (uw_13 w h)) (in_of qfRX12_37) tyX12 tyX12_ok nmX12 rfl rfl rfl (tyX12_ok 9 (by decide)) rfl rfl dX12_init_69 h1 ?_
  exact ret_V B rfl dX12_init_72 (hq)
theorem bX12_copy_0 (B : Bd p s m args meth c cX12_copy 3 (wsOf yX12_copy cX12_copy 3 none) RX12 w none "copy") {v0 : Nat} {v1 : Nat} {v2 : Nat} {post : St → Prop} (h1 : kd S v1 = 21) (h2 : kd S v2 = 21) (h3 : ¬ (nI (ln S v1)) < 0) (h4 : (0 : Int32).toNatClampNeg + (nI (ln S v1)).toNatClampNeg ≤ ln S v1) (h5 : (0 : Int32).toNatClampNeg + (nI (ln S v1)).toNatClampNeg ≤ ln S v2) (hq : post (sRI S v2 (va_cpy (rI S v1) (rI S v2) (0 : Int32).toNatClampNeg (0 : Int32).toNatClampNeg (nI (ln S v1)).toNatClampNeg))) : K p l e rX12_copy s m args below meth c 3 w 0 0 (MQ below (va_Qv post (fun S' t => Hd w S' t.heap) (wA w)) args s 0 0 (wA w)) S 0 [(0, .ref v0), (1, .ref v1), (2, .ref v2)] [] := by
  refine k_aload_n B 1 rfl rfl dX12_copy_0 ?_
  refine k_iconst (v := 0) B (by decide) dX12_copy_1 ?_
  refine k_aload_n B 2 rfl rfl dX12_copy_2 ?_
  refine k_iconst (v := 0) B (by decide) dX12_copy_3 ?_
  refine k_aload_n B 1 rfl rfl dX12_copy_4 ?_
  refine k_ilen (v := nI (ln S v1)) B dX12_copy_5 h1 rfl ?_
  refine k_acopy B (in_of qlRX12_40) (in_of qnat_copy) (in_of qs_copy) (in_of qz_System) h1 h2 (by decide) (by decide) h3 h4 h5 (Nat.le_of_ble_eq_true rfl) (Nat.le_of_ble_eq_true rfl) dX12_copy_6 ?_
  exact ret_V B rfl dX12_copy_9 (hq)
theorem bX12_become_0 (B : Bd p s m args meth c cX12_become 2 (wsOf yX12_become cX12_become 2 none) RX12 w none "become") {v0 : Nat} {v1 : Nat} {x1 : Nat} {x2 : Nat} {post : St → Prop} {Q : State → Prop} (h1 : kd S v1 = 14) (h2 : kd S v0 = 14) (h3 : gP S 834 v1 = some x1) (h4 : gP S 834 v0 = some x2) (hc : ConV l yX12_copy (wsOf yX12_copy cX12_copy 3 none) rX12_copy w (sI S 832 v0 (gI S 832 v1)) [.ref v0, .ref x1, .ref x2] post) (kk : ∀ (S' : St), post S' → K p l e rX12_become s m args below meth c 2 w 0 0 Q S' 20 [(0, .ref v0), (1, .ref v1)] []) : K p l e rX12_become s m args below meth c 2 w 0 0 Q S 0 [(0, .ref v0), (1, .ref v1)] [] := by
  refine k_aload_n B 0 rfl rfl dX12_become_0 ?_
  refine k_aload_n B 1 rfl rfl dX12_become_1 ?_
  refine k_getI (f := 832) (v := gI S 832 v1) B 13 0 rfl (by decide) rfl (by decide) rfl rfl (fun w h => in_of (uw_13 w h)) (in_of qfRX12_46) dX12_become_2 h1 rfl ?_
  refine k_putI (f := 832) B 13 0 rfl (by decide) rfl (by decide) rfl rfl (fun w h => in_of (uw_13 w h)) (in_of qfRX12_46) tyX12 tyX12_ok nmX12 rfl (tyX12_ok 0 (by decide)) dX12_become_5 h2 ?_
  refine k_aload_n B 0 rfl rfl dX12_become_8 ?_
  refine k_aload_n B 1 rfl rfl dX12_become_9 ?_
  refine k_getP (f := 834) (r := gP S 834 v1) B 13 2 rfl (by decide) rfl (by decide) rfl rfl (fun w h => in_of (uw_13 w h)) (in_of qfRX12_15) dX12_become_10 h1 rfl ?_
  rw [h3]; change K _ _ _ _ _ _ _ _ _ _ _ _ _ _ _ _ _ _ (.ref x1 :: _)
  refine k_aload_n B 0 rfl rfl dX12_become_13 ?_
  refine k_getP (f := 834) (r := gP S 834 v0) B 13 2 rfl (by decide) rfl (by decide) rfl rfl (fun w h => in_of (uw_13 w h)) (in_of qfRX12_15) dX12_become_14 h2 rfl ?_
  rw [h4]; change K _ _ _ _ _ _ _ _ _ _ _ _ _ _ _ _ _ _ (.ref x2 :: _)
  refine callV_V (st := []) B [.ref x1, .ref x2] (hc) (cwV 2 B.1.2.2.2.2 (gV qlRX12_50 qiX12_copy qeX12_copy qzRX12 qcX12_copy) rfl rfl rfl (by decide +kernel) ⟨Nat.le_of_ble_eq_true rfl, Nat.le_of_ble_eq_true rfl⟩) rfl rfl (by decide) h2 (Nat.le_of_ble_eq_true rfl) rfl dX12_become_17 ⟨Nat.le_of_ble_eq_true rfl, Nat.le_of_ble_eq_true rfl⟩ (fun S' hp => ?_)
  exact kk S' hp
theorem bX12_become_20 (B : Bd p s m args meth c cX12_become 2 (wsOf yX12_become cX12_become 2 none) RX12 w none "become") {v0 : Nat} {v1 : Nat} {x1 : Nat} {x2 : Nat} {post : St → Prop} {Q : State → Prop} (h1 : kd S v1 = 14) (h2 : gP S 835 v1 = some x1) (h3 : kd S v0 = 14) (h4 : gP S 835 v0 = some x2) (hc : ConV l yX12_copy (wsOf yX12_copy cX12_copy 3 none) rX12_copy w S [.ref v0, .ref x1, .ref x2] post) (kk : ∀ (S' : St), post S' → K p l e rX12_become s m args below meth c 2 w 0 0 Q S' 32 [(0, .ref v0), (1, .ref v1)] []) : K p l e rX12_become s m args below meth c 2 w 0 0 Q S 20 [(0, .ref v0), (1, .ref v1)] [] := by
  refine k_aload_n B 0 rfl rfl dX12_become_20 ?_
  refine k_aload_n B 1 rfl rfl dX12_become_21 ?_
  refine k_getP (f := 835) (r := gP S 835 v1) B 13 3 rfl (by decide) rfl (by decide) rfl rfl (fun w h => in_of (uw_13 w h)) (in_of qfRX12_19) dX12_become_22 h1 rfl ?_
  rw [h2]; change K _ _ _ _ _ _ _ _ _ _ _ _ _ _ _ _ _ _ (.ref x1 :: _)
  refine k_aload_n B 0 rfl rfl dX12_become_25 ?_
  refine k_getP (f := 835) (r := gP S 835 v0) B 13 3 rfl (by decide) rfl (by decide) rfl rfl (fun w h => in_of (uw_13 w h)) (in_of qfRX12_19) dX12_become_26 h3 rfl ?_
  rw [h4]; change K _ _ _ _ _ _ _ _ _ _ _ _ _ _ _ _ _ _ (.ref x2 :: _)
  refine callV_V (st := []) B [.ref x1, .ref x2] (hc) (cwV 2 B.1.2.2.2.2 (gV qlRX12_50 qiX12_copy qeX12_copy qzRX12 qcX12_copy) rfl rfl rfl (by decide +kernel) ⟨Nat.le_of_ble_eq_true rfl, Nat.le_of_ble_eq_true rfl⟩) rfl rfl (by decide) h3 (Nat.le_of_ble_eq_true rfl) rfl dX12_become_29 ⟨Nat.le_of_ble_eq_true rfl, Nat.le_of_ble_eq_true rfl⟩ (fun S' hp => ?_)
  exact kk S' hp
theorem bX12_become_32 (B : Bd p s m args meth c cX12_become 2 (wsOf yX12_become cX12_become 2 none) RX12 w none "become") {v0 : Nat} {v1 : Nat} {x1 : Nat} {x2 : Nat} {post : St → Prop} {Q : State → Prop} (h1 : kd S v1 = 14) (h2 : gP S 836 v1 = some x1) (h3 : kd S v0 = 14) (h4 : gP S 836 v0 = some x2) (hc : ConV l yX12_copy (wsOf yX12_copy cX12_copy 3 none) rX12_copy w S [.ref v0, .ref x1, .ref x2] post) (kk : ∀ (S' : St), post S' → K p l e rX12_become s m args below meth c 2 w 0 0 Q S' 44 [(0, .ref v0), (1, .ref v1)] []) : K p l e rX12_become s m args below meth c 2 w 0 0 Q S 32 [(0, .ref v0), (1, .ref v1)] [] := by
  refine k_aload_n B 0 rfl rfl dX12_become_32 ?_
  refine k_aload_n B 1 rfl rfl dX12_become_33 ?_
  refine k_getP (f := 836) (r := gP S 836 v1) B 13 4 rfl (by decide) rfl (by decide) rfl rfl (fun w h => in_of (uw_13 w h)) (in_of qfRX12_22) dX12_become_34 h1 rfl ?_
  rw [h2]; change K _ _ _ _ _ _ _ _ _ _ _ _ _ _ _ _ _ _ (.ref x1 :: _)
  refine k_aload_n B 0 rfl rfl dX12_become_37 ?_
  refine k_getP (f := 836) (r := gP S 836 v0) B 13 4 rfl (by decide) rfl (by decide) rfl rfl (fun w h => in_of (uw_13 w h)) (in_of qfRX12_22) dX12_become_38 h3 rfl ?_
  rw [h4]; change K _ _ _ _ _ _ _ _ _ _ _ _ _ _ _ _ _ _ (.ref x2 :: _)
  refine callV_V (st := []) B [.ref x1, .ref x2] (hc) (cwV 2 B.1.2.2.2.2 (gV qlRX12_50 qiX12_copy qeX12_copy qzRX12 qcX12_copy) rfl rfl rfl (by decide +kernel) ⟨Nat.le_of_ble_eq_true rfl, Nat.le_of_ble_eq_true rfl⟩) rfl rfl (by decide) h3 (Nat.le_of_ble_eq_true rfl) rfl dX12_become_41 ⟨Nat.le_of_ble_eq_true rfl, Nat.le_of_ble_eq_true rfl⟩ (fun S' hp => ?_)
  exact kk S' hp
theorem bX12_become_44 (B : Bd p s m args meth c cX12_become 2 (wsOf yX12_become cX12_become 2 none) RX12 w none "become") {v0 : Nat} {v1 : Nat} {x1 : Nat} {x2 : Nat} {post : St → Prop} {Q : State → Prop} (h1 : kd S v1 = 14) (h2 : gP S 837 v1 = some x1) (h3 : kd S v0 = 14) (h4 : gP S 837 v0 = some x2) (hc : ConV l yX12_copy (wsOf yX12_copy cX12_copy 3 none) rX12_copy w S [.ref v0, .ref x1, .ref x2] post) (kk : ∀ (S' : St), post S' → K p l e rX12_become s m args below meth c 2 w 0 0 Q S' 56 [(0, .ref v0), (1, .ref v1)] []) : K p l e rX12_become s m args below meth c 2 w 0 0 Q S 44 [(0, .ref v0), (1, .ref v1)] [] := by
  refine k_aload_n B 0 rfl rfl dX12_become_44 ?_
  refine k_aload_n B 1 rfl rfl dX12_become_45 ?_
  refine k_getP (f := 837) (r := gP S 837 v1) B 13 5 rfl (by decide) rfl (by decide) rfl rfl (fun w h => in_of (uw_13 w h)) (in_of qfRX12_25) dX12_become_46 h1 rfl ?_
  rw [h2]; change K _ _ _ _ _ _ _ _ _ _ _ _ _ _ _ _ _ _ (.ref x1 :: _)
  refine k_aload_n B 0 rfl rfl dX12_become_49 ?_
  refine k_getP (f := 837) (r := gP S 837 v0) B 13 5 rfl (by decide) rfl (by decide) rfl rfl (fun w h => in_of (uw_13 w h)) (in_of qfRX12_25) dX12_become_50 h3 rfl ?_
  rw [h4]; change K _ _ _ _ _ _ _ _ _ _ _ _ _ _ _ _ _ _ (.ref x2 :: _)
  refine callV_V (st := []) B [.ref x1, .ref x2] (hc) (cwV 2 B.1.2.2.2.2 (gV qlRX12_50 qiX12_copy qeX12_copy qzRX12 qcX12_copy) rfl rfl rfl (by decide +kernel) ⟨Nat.le_of_ble_eq_true rfl, Nat.le_of_ble_eq_true rfl⟩) rfl rfl (by decide) h3 (Nat.le_of_ble_eq_true rfl) rfl dX12_become_53 ⟨Nat.le_of_ble_eq_true rfl, Nat.le_of_ble_eq_true rfl⟩ (fun S' hp => ?_)
  exact kk S' hp
theorem bX12_become_56 (B : Bd p s m args meth c cX12_become 2 (wsOf yX12_become cX12_become 2 none) RX12 w none "become") {v0 : Nat} {v1 : Nat} {x1 : Nat} {x2 : Nat} {post : St → Prop} {Q : State → Prop} (h1 : kd S v1 = 14) (h2 : gP S 838 v1 = some x1) (h3 : kd S v0 = 14) (h4 : gP S 838 v0 = some x2) (hc : ConV l yX12_copy (wsOf yX12_copy cX12_copy 3 none) rX12_copy w S [.ref v0, .ref x1, .ref x2] post) (kk : ∀ (S' : St), post S' → K p l e rX12_become s m args below meth c 2 w 0 0 Q S' 68 [(0, .ref v0), (1, .ref v1)] []) : K p l e rX12_become s m args below meth c 2 w 0 0 Q S 56 [(0, .ref v0), (1, .ref v1)] [] := by
  refine k_aload_n B 0 rfl rfl dX12_become_56 ?_
  refine k_aload_n B 1 rfl rfl dX12_become_57 ?_
  refine k_getP (f := 838) (r := gP S 838 v1) B 13 6 rfl (by decide) rfl (by decide) rfl rfl (fun w h => in_of (uw_13 w h)) (in_of qfRX12_28) dX12_become_58 h1 rfl ?_
  rw [h2]; change K _ _ _ _ _ _ _ _ _ _ _ _ _ _ _ _ _ _ (.ref x1 :: _)
  refine k_aload_n B 0 rfl rfl dX12_become_61 ?_
  refine k_getP (f := 838) (r := gP S 838 v0) B 13 6 rfl (by decide) rfl (by decide) rfl rfl (fun w h => in_of (uw_13 w h)) (in_of qfRX12_28) dX12_become_62 h3 rfl ?_
  rw [h4]; change K _ _ _ _ _ _ _ _ _ _ _ _ _ _ _ _ _ _ (.ref x2 :: _)
  refine callV_V (st := []) B [.ref x1, .ref x2] (hc) (cwV 2 B.1.2.2.2.2 (gV qlRX12_50 qiX12_copy qeX12_copy qzRX12 qcX12_copy) rfl rfl rfl (by decide +kernel) ⟨Nat.le_of_ble_eq_true rfl, Nat.le_of_ble_eq_true rfl⟩) rfl rfl (by decide) h3 (Nat.le_of_ble_eq_true rfl) rfl dX12_become_65 ⟨Nat.le_of_ble_eq_true rfl, Nat.le_of_ble_eq_true rfl⟩ (fun S' hp => ?_)
  exact kk S' hp
theorem bX12_become_68 (B : Bd p s m args meth c cX12_become 2 (wsOf yX12_become cX12_become 2 none) RX12 w none "become") {v0 : Nat} {v1 : Nat} {x1 : Nat} {x2 : Nat} {post : St → Prop} {Q : State → Prop} (h1 : kd S v1 = 14) (h2 : gP S 839 v1 = some x1) (h3 : kd S v0 = 14) (h4 : gP S 839 v0 = some x2) (hc : ConV l yX12_copy (wsOf yX12_copy cX12_copy 3 none) rX12_copy w S [.ref v0, .ref x1, .ref x2] post) (kk : ∀ (S' : St), post S' → K p l e rX12_become s m args below meth c 2 w 0 0 Q S' 80 [(0, .ref v0), (1, .ref v1)] []) : K p l e rX12_become s m args below meth c 2 w 0 0 Q S 68 [(0, .ref v0), (1, .ref v1)] [] := by
  refine k_aload_n B 0 rfl rfl dX12_become_68 ?_
  refine k_aload_n B 1 rfl rfl dX12_become_69 ?_
  refine k_getP (f := 839) (r := gP S 839 v1) B 13 7 rfl (by decide) rfl (by decide) rfl rfl (fun w h => in_of (uw_13 w h)) (in_of qfRX12_31) dX12_become_70 h1 rfl ?_
  rw [h2]; change K _ _ _ _ _ _ _ _ _ _ _ _ _ _ _ _ _ _ (.ref x1 :: _)
  refine k_aload_n B 0 rfl rfl dX12_become_73 ?_
  refine k_getP (f := 839) (r := gP S 839 v0) B 13 7 rfl (by decide) rfl (by decide) rfl rfl (fun w h => in_of (uw_13 w h)) (in_of qfRX12_31) dX12_become_74 h3 rfl ?_
  rw [h4]; change K _ _ _ _ _ _ _ _ _ _ _ _ _ _ _ _ _ _ (.ref x2 :: _)
  refine callV_V (st := []) B [.ref x1, .ref x2] (hc) (cwV 2 B.1.2.2.2.2 (gV qlRX12_50 qiX12_copy qeX12_copy qzRX12 qcX12_copy) rfl rfl rfl (by decide +kernel) ⟨Nat.le_of_ble_eq_true rfl, Nat.le_of_ble_eq_true rfl⟩) rfl rfl (by decide) h3 (Nat.le_of_ble_eq_true rfl) rfl dX12_become_77 ⟨Nat.le_of_ble_eq_true rfl, Nat.le_of_ble_eq_true rfl⟩ (fun S' hp => ?_)
  exact kk S' hp
theorem bX12_become_80 (B : Bd p s m args meth c cX12_become 2 (wsOf yX12_become cX12_become 2 none) RX12 w none "become") {v0 : Nat} {v1 : Nat} {x1 : Nat} {x2 : Nat} {post : St → Prop} {Q : State → Prop} (h1 : kd S v1 = 14) (h2 : gP S 840 v1 = some x1) (h3 : kd S v0 = 14) (h4 : gP S 840 v0 = some x2) (hc : ConV l yX12_copy (wsOf yX12_copy cX12_copy 3 none) rX12_copy w S [.ref v0, .ref x1, .ref x2] post) (kk : ∀ (S' : St), post S' → K p l e rX12_become s m args below meth c 2 w 0 0 Q S' 92 [(0, .ref v0), (1, .ref v1)] []) : K p l e rX12_become s m args below meth c 2 w 0 0 Q S 80 [(0, .ref v0), (1, .ref v1)] [] := by
  refine k_aload_n B 0 rfl rfl dX12_become_80 ?_
  refine k_aload_n B 1 rfl rfl dX12_become_81 ?_
  refine k_getP (f := 840) (r := gP S 840 v1) B 13 8 rfl (by decide) rfl (by decide) rfl rfl (fun w h => in_of (uw_13 w h)) (in_of qfRX12_34) dX12_become_82 h1 rfl ?_
  rw [h2]; change K _ _ _ _ _ _ _ _ _ _ _ _ _ _ _ _ _ _ (.ref x1 :: _)
  refine k_aload_n B 0 rfl rfl dX12_become_85 ?_
  refine k_getP (f := 840) (r := gP S 840 v0) B 13 8 rfl (by decide) rfl (by decide) rfl rfl (fun w h => in_of (uw_13 w h)) (in_of qfRX12_34) dX12_become_86 h3 rfl ?_
  rw [h4]; change K _ _ _ _ _ _ _ _ _ _ _ _ _ _ _ _ _ _ (.ref x2 :: _)
  refine callV_V (st := []) B [.ref x1, .ref x2] (hc) (cwV 2 B.1.2.2.2.2 (gV qlRX12_50 qiX12_copy qeX12_copy qzRX12 qcX12_copy) rfl rfl rfl (by decide +kernel) ⟨Nat.le_of_ble_eq_true rfl, Nat.le_of_ble_eq_true rfl⟩) rfl rfl (by decide) h3 (Nat.le_of_ble_eq_true rfl) rfl dX12_become_89 ⟨Nat.le_of_ble_eq_true rfl, Nat.le_of_ble_eq_true rfl⟩ (fun S' hp => ?_)
  exact kk S' hp
theorem bX12_become_92 (B : Bd p s m args meth c cX12_become 2 (wsOf yX12_become cX12_become 2 none) RX12 w none "become") {v0 : Nat} {v1 : Nat} {x1 : Nat} {x2 : Nat} {post : St → Prop} {Q : State → Prop} (h1 : kd S v1 = 14) (h2 : gP S 841 v1 = some x1) (h3 : kd S v0 = 14) (h4 : gP S 841 v0 = some x2) (hc : ConV l yX12_copy (wsOf yX12_copy cX12_copy 3 none) rX12_copy w S [.ref v0, .ref x1, .ref x2] post) (kk : ∀ (S' : St), post S' → K p l e rX12_become s m args below meth c 2 w 0 0 Q S' 104 [] []) : K p l e rX12_become s m args below meth c 2 w 0 0 Q S 92 [(0, .ref v0), (1, .ref v1)] [] := by
  refine k_aload_n B 0 rfl rfl dX12_become_92 ?_
  refine k_aload_n B 1 rfl rfl dX12_become_93 ?_
  refine k_getP (f := 841) (r := gP S 841 v1) B 13 9 rfl (by decide) rfl (by decide) rfl rfl (fun w h => in_of (uw_13 w h)) (in_of qfRX12_37) dX12_become_94 h1 rfl ?_
  rw [h2]; change K _ _ _ _ _ _ _ _ _ _ _ _ _ _ _ _ _ _ (.ref x1 :: _)
  refine k_aload_n B 0 rfl rfl dX12_become_97 ?_
  refine k_getP (f := 841) (r := gP S 841 v0) B 13 9 rfl (by decide) rfl (by decide) rfl rfl (fun w h => in_of (uw_13 w h)) (in_of qfRX12_37) dX12_become_98 h3 rfl ?_
  rw [h4]; change K _ _ _ _ _ _ _ _ _ _ _ _ _ _ _ _ _ _ (.ref x2 :: _)
  refine callV_V (st := []) B [.ref x1, .ref x2] (hc) (cwV 2 B.1.2.2.2.2 (gV qlRX12_50 qiX12_copy qeX12_copy qzRX12 qcX12_copy) rfl rfl rfl (by decide +kernel) ⟨Nat.le_of_ble_eq_true rfl, Nat.le_of_ble_eq_true rfl⟩) rfl rfl (by decide) h3 (Nat.le_of_ble_eq_true rfl) rfl dX12_become_101 ⟨Nat.le_of_ble_eq_true rfl, Nat.le_of_ble_eq_true rfl⟩ (fun S' hp => ?_)
  refine k_sub [] rfl ?_
  exact kk S' hp
theorem bX12_become_104 (B : Bd p s m args meth c cX12_become 2 (wsOf yX12_become cX12_become 2 none) RX12 w none "become") {post : St → Prop}  (hq : post S) : K p l e rX12_become s m args below meth c 2 w 0 0 (MQ below (va_Qv post (fun S' t => Hd w S' t.heap) (wA w)) args s 0 0 (wA w)) S 104 [] [] := by
  exact ret_V B rfl dX12_become_104 (hq)
theorem bX12_vanOf_0 (B : Bd p s m args meth c cX12_vanOf 4 (wsOf yX12_vanOf cX12_vanOf 4 (some .int)) RX12 w (some .int) "vanOf") {v0 : Nat} {v1 : Int32} {Q : State → Prop}  (kk : K p l e rX12_vanOf s m args below meth c 4 w 0 0 Q S 2 [(0, .ref v0), (1, .int v1), (2, .int 0)] []) : K p l e rX12_vanOf s m args below meth c 4 w 0 0 Q S 0 [(0, .ref v0), (1, .int v1)] [] := by
  refine k_iconst (v := 0) B (by decide) dX12_vanOf_0 ?_
  refine k_istore_n (lst' := [(2, .int 0), (0, .ref v0), (1, .int v1)]) B rfl (by decide) rfl dX12_vanOf_1 ?_
  refine k_sub [1, 2, 0] rfl ?_
  exact kk
theorem bX12_vanOf_2 (B : Bd p s m args meth c cX12_vanOf 4 (wsOf yX12_vanOf cX12_vanOf 4 (some .int)) RX12 w (some .int) "vanOf") {v0 : Nat} {v1 : Int32} {v2 : Int32} {x1 : Nat} {Q : State → Prop} (h1 : kd S v0 = 14) (h2 : gP S 846 v0 = some x1) (h3 : kd S x1 = 15) (kt : (gI S 909 x1) ≤ v2 → K p l e rX12_vanOf s m args below meth c 4 w 0 0 Q S 54 [] []) (kf : ¬ (gI S 909 x1) ≤ v2 → K p l e rX12_vanOf s m args below meth c 4 w 0 0 Q S 13 [(0, .ref v0), (1, .int v1), (2, .int v2)] []) : K p l e rX12_vanOf s m args below meth c 4 w 0 0 Q S 2 [(0, .ref v0), (1, .int v1), (2, .int v2)] [] := by
  refine k_iload_n B 2 rfl rfl dX12_vanOf_2 ?_
  refine k_aload_n B 0 rfl rfl dX12_vanOf_3 ?_
  refine k_getP (f := 846) (r := gP S 846 v0) B 13 14 rfl (by decide) rfl (by decide) rfl rfl (fun w h => in_of (uw_13 w h)) (in_of qfRX12_3) dX12_vanOf_4 h1 rfl ?_
  rw [h2]; change K _ _ _ _ _ _ _ _ _ _ _ _ _ _ _ _ _ _ (.ref x1 :: _)
  refine k_getIN (f := 909) (v := gI S 909 x1) B 14 13 rfl (by decide) rfl (by decide) rfl rfl (fun w h => in_of (uw_14 w h)) "LastMileModel" (nzF_19 B.2.2.2.1.2.2.2.1) dX12_vanOf_7 h3 rfl ?_
  refine k_icmp_ge (tgt := 54) B dX12_vanOf_10 (by decide) (fun c => ?_) (fun c => ?_)
  · refine k_sub [] rfl ?_
    exact kt c
  · exact kf c
theorem bX12_vanOf_13 (B : Bd p s m args meth c cX12_vanOf 4 (wsOf yX12_vanOf cX12_vanOf 4 (some .int)) RX12 w (some .int) "vanOf") {v0 : Nat} {v1 : Int32} {v2 : Int32} {Q : State → Prop}  (kk : K p l e rX12_vanOf s m args below meth c 4 w 0 0 Q S 15 [(0, .ref v0), (1, .int v1), (2, .int v2), (3, .int 0)] []) : K p l e rX12_vanOf s m args below meth c 4 w 0 0 Q S 13 [(0, .ref v0), (1, .int v1), (2, .int v2)] [] := by
  refine k_iconst (v := 0) B (by decide) dX12_vanOf_13 ?_
  refine k_istore_n (lst' := [(3, .int 0), (0, .ref v0), (1, .int v1), (2, .int v2)]) B rfl (by decide) rfl dX12_vanOf_14 ?_
  refine k_sub [1, 2, 3, 0] rfl ?_
  exact kk
theorem bX12_vanOf_15 (B : Bd p s m args meth c cX12_vanOf 4 (wsOf yX12_vanOf cX12_vanOf 4 (some .int)) RX12 w (some .int) "vanOf") {v0 : Nat} {v1 : Int32} {v2 : Int32} {v3 : Int32} {x1 : Nat} {Q : State → Prop} (h1 : kd S v0 = 14) (h2 : gP S 840 v0 = some x1) (h3 : kd S x1 = 21) (h4 : vp_in v2 (ln S x1)) (kt : ((rI S x1) v2.toNatClampNeg) ≤ v3 → K p l e rX12_vanOf s m args below meth c 4 w 0 0 Q S 48 [(0, .ref v0), (1, .int v1), (2, .int v2)] []) (kf : ¬ ((rI S x1) v2.toNatClampNeg) ≤ v3 → K p l e rX12_vanOf s m args below meth c 4 w 0 0 Q S 25 [(0, .ref v0), (1, .int v1), (2, .int v2), (3, .int v3)] []) : K p l e rX12_vanOf s m args below meth c 4 w 0 0 Q S 15 [(0, .ref v0), (1, .int v1), (2, .int v2), (3, .int v3)] [] := by
  refine k_iload_n B 3 rfl rfl dX12_vanOf_15 ?_
  refine k_aload_n B 0 rfl rfl dX12_vanOf_16 ?_
  refine k_getP (f := 840) (r := gP S 840 v0) B 13 8 rfl (by decide) rfl (by decide) rfl rfl (fun w h => in_of (uw_13 w h)) (in_of qfRX12_34) dX12_vanOf_17 h1 rfl ?_
  rw [h2]; change K _ _ _ _ _ _ _ _ _ _ _ _ _ _ _ _ _ _ (.ref x1 :: _)
  refine k_iload_n B 2 rfl rfl dX12_vanOf_20 ?_
  refine k_iald (v := (rI S x1) v2.toNatClampNeg) B dX12_vanOf_21 h3 h4 rfl ?_
  refine k_icmp_ge (tgt := 48) B dX12_vanOf_22 (by decide) (fun c => ?_) (fun c => ?_)
  · refine k_sub [0, 1, 2] rfl ?_
    exact kt c
  · exact kf c
theorem bX12_vanOf_25 (B : Bd p s m args meth c cX12_vanOf 4 (wsOf yX12_vanOf cX12_vanOf 4 (some .int)) RX12 w (some .int) "vanOf") {v0 : Nat} {v1 : Int32} {v2 : Int32} {v3 : Int32} {x1 : Nat} {Q : State → Prop} (h1 : kd S v0 = 14) (h2 : gP S 841 v0 = some x1) (h3 : kd S x1 = 21) (h4 : vp_in ((12 * v2) + v3) (ln S x1)) (kt : ¬ ((rI S x1) ((12 * v2) + v3).toNatClampNeg) = v1 → K p l e rX12_vanOf s m args below meth c 4 w 0 0 Q S 42 [(0, .ref v0), (1, .int v1), (2, .int v2), (3, .int v3)] []) (kf : ((rI S x1) ((12 * v2) + v3).toNatClampNeg) = v1 → K p l e rX12_vanOf s m args below meth c 4 w 0 0 Q S 40 [(2, .int v2)] []) : K p l e rX12_vanOf s m args below meth c 4 w 0 0 Q S 25 [(0, .ref v0), (1, .int v1), (2, .int v2), (3, .int v3)] [] := by
  refine k_aload_n B 0 rfl rfl dX12_vanOf_25 ?_
  refine k_getP (f := 841) (r := gP S 841 v0) B 13 9 rfl (by decide) rfl (by decide) rfl rfl (fun w h => in_of (uw_13 w h)) (in_of qfRX12_37) dX12_vanOf_26 h1 rfl ?_
  rw [h2]; change K _ _ _ _ _ _ _ _ _ _ _ _ _ _ _ _ _ _ (.ref x1 :: _)
  refine k_bipush (v := 12) B (by decide) dX12_vanOf_29 ?_
  refine k_iload_n B 2 rfl rfl dX12_vanOf_31 ?_
  refine k_imul B dX12_vanOf_32 ?_
  refine k_iload_n B 3 rfl rfl dX12_vanOf_33 ?_
  refine k_iadd B dX12_vanOf_34 ?_
  refine k_iald (v := (rI S x1) ((12 * v2) + v3).toNatClampNeg) B dX12_vanOf_35 h3 h4 rfl ?_
  refine k_iload_n B 1 rfl rfl dX12_vanOf_36 ?_
  refine k_icmp_ne (tgt := 42) B dX12_vanOf_37 (by decide) (fun c => ?_) (fun c => ?_)
  · exact kt c
  · refine k_sub [2] rfl ?_
    exact kf c
theorem bX12_vanOf_40 (B : Bd p s m args meth c cX12_vanOf 4 (wsOf yX12_vanOf cX12_vanOf 4 (some .int)) RX12 w (some .int) "vanOf") {v2 : Int32} {post : Int32 → St → Prop}  (hq : post v2 S) : K p l e rX12_vanOf s m args below meth c 4 w 0 0 (MQ below (va_Qi post (fun S' t => Hd w S' t.heap) (wA w)) args s 0 0 (wA w)) S 40 [(2, .int v2)] [] := by
  refine k_iload_n B 0 rfl rfl dX12_vanOf_40 ?_
  exact ret_I B rfl dX12_vanOf_41 (hq)
theorem bX12_vanOf_42 (B : Bd p s m args meth c cX12_vanOf 4 (wsOf yX12_vanOf cX12_vanOf 4 (some .int)) RX12 w (some .int) "vanOf") {v0 : Nat} {v1 : Int32} {v2 : Int32} {v3 : Int32} {Q : State → Prop}  (kk : K p l e rX12_vanOf s m args below meth c 4 w 0 0 Q S 15 [(0, .ref v0), (1, .int v1), (2, .int v2), (3, .int (v3 + 1))] []) : K p l e rX12_vanOf s m args below meth c 4 w 0 0 Q S 42 [(0, .ref v0), (1, .int v1), (2, .int v2), (3, .int v3)] [] := by
  refine k_iinc (v := v3 + 1) (lst' := [(3, .int (v3 + 1)), (0, .ref v0), (1, .int v1), (2, .int v2)]) B 3 rfl rfl (by decide) rfl dX12_vanOf_42 ?_
  refine k_goto (tgt := 15) B dX12_vanOf_45 (by decide) ?_
  refine k_sub [1, 2, 3, 0] rfl ?_
  exact kk
theorem bX12_vanOf_48 (B : Bd p s m args meth c cX12_vanOf 4 (wsOf yX12_vanOf cX12_vanOf 4 (some .int)) RX12 w (some .int) "vanOf") {v0 : Nat} {v1 : Int32} {v2 : Int32} {Q : State → Prop}  (kk : K p l e rX12_vanOf s m args below meth c 4 w 0 0 Q S 2 [(0, .ref v0), (1, .int v1), (2, .int (v2 + 1))] []) : K p l e rX12_vanOf s m args below meth c 4 w 0 0 Q S 48 [(0, .ref v0), (1, .int v1), (2, .int v2)] [] := by
  refine k_iinc (v := v2 + 1) (lst' := [(2, .int (v2 + 1)), (0, .ref v0), (1, .int v1)]) B 2 rfl rfl (by decide) rfl dX12_vanOf_48 ?_
  refine k_goto (tgt := 2) B dX12_vanOf_51 (by decide) ?_
  refine k_sub [1, 2, 0] rfl ?_
  exact kk
theorem bX12_vanOf_54 (B : Bd p s m args meth c cX12_vanOf 4 (wsOf yX12_vanOf cX12_vanOf 4 (some .int)) RX12 w (some .int) "vanOf") {post : Int32 → St → Prop}  (hq : post (-1) S) : K p l e rX12_vanOf s m args below meth c 4 w 0 0 (MQ below (va_Qi post (fun S' t => Hd w S' t.heap) (wA w)) args s 0 0 (wA w)) S 54 [] [] := by
  refine k_iconst (v := (-1)) B (by decide) dX12_vanOf_54 ?_
  exact ret_I B rfl dX12_vanOf_55 (hq)
theorem bX12_boxFor_0 (B : Bd p s m args meth c cX12_boxFor 5 (wsOf yX12_boxFor cX12_boxFor 5 (some .int)) RX12 w (some .int) "boxFor") {v0 : Nat} {v1 : Int32} {v2 : Int32} {x1 : Nat} {x2 : Nat} {Q : State → Prop} (h1 : kd S v0 = 14) (h2 : gP S 846 v0 = some x1) (h3 : kd S x1 = 15) (h4 : gP S 915 x1 = some x2) (h5 : kd S x2 = 21) (h6 : vp_in v1 (ln S x2)) (kt : 5 < ((rI S x2) v1.toNatClampNeg) → K p l e rX12_boxFor s m args below meth c 5 w 0 0 Q S 17 [(0, .ref v0), (1, .int v1), (2, .int v2)] []) (kf : ¬ 5 < ((rI S x2) v1.toNatClampNeg) → K p l e rX12_boxFor s m args below meth c 5 w 0 0 Q S 13 [(0, .ref v0), (2, .int v2)] []) : K p l e rX12_boxFor s m args below meth c 5 w 0 0 Q S 0 [(0, .ref v0), (1, .int v1), (2, .int v2)] [] := by
  refine k_aload_n B 0 rfl rfl dX12_boxFor_0 ?_
  refine k_getP (f := 846) (r := gP S 846 v0) B 13 14 rfl (by decide) rfl (by decide) rfl rfl (fun w h => in_of (uw_13 w h)) (in_of qfRX12_3) dX12_boxFor_1 h1 rfl ?_
  rw [h2]; change K _ _ _ _ _ _ _ _ _ _ _ _ _ _ _ _ _ _ (.ref x1 :: _)
  refine k_getPN (f := 915) (r := gP S 915 x1) B 14 19 rfl (by decide) rfl (by decide) rfl rfl (fun w h => in_of (uw_14 w h)) "LastMileModel" (nzF_20 B.2.2.2.1.2.2.2.1) dX12_boxFor_4 h3 rfl ?_
  rw [h4]; change K _ _ _ _ _ _ _ _ _ _ _ _ _ _ _ _ _ _ (.ref x2 :: _)
  refine k_iload_n B 1 rfl rfl dX12_boxFor_7 ?_
  refine k_iald (v := (rI S x2) v1.toNatClampNeg) B dX12_boxFor_8 h5 h6 rfl ?_
  refine k_iconst (v := 5) B (by decide) dX12_boxFor_9 ?_
  refine k_icmp_gt (tgt := 17) B dX12_boxFor_10 (by decide) (fun c => ?_) (fun c => ?_)
  · exact kt c
  · refine k_sub [0, 2] rfl ?_
    exact kf c
theorem bX12_boxFor_13 (B : Bd p s m args meth c cX12_boxFor 5 (wsOf yX12_boxFor cX12_boxFor 5 (some .int)) RX12 w (some .int) "boxFor") {v0 : Nat} {v2 : Int32} {Q : State → Prop}  (kk : K p l e rX12_boxFor s m args below meth c 5 w 0 0 Q S 36 [(0, .ref v0), (2, .int v2)] [.int 0]) : K p l e rX12_boxFor s m args below meth c 5 w 0 0 Q S 13 [(0, .ref v0), (2, .int v2)] [] := by
  refine k_iconst (v := 0) B (by decide) dX12_boxFor_13 ?_
  refine k_goto (tgt := 36) B dX12_boxFor_14 (by decide) ?_
  exact kk
theorem bX12_boxFor_17 (B : Bd p s m args meth c cX12_boxFor 5 (wsOf yX12_boxFor cX12_boxFor 5 (some .int)) RX12 w (some .int) "boxFor") {v0 : Nat} {v1 : Int32} {v2 : Int32} {x1 : Nat} {x2 : Nat} {Q : State → Prop} (h1 : kd S v0 = 14) (h2 : gP S 846 v0 = some x1) (h3 : kd S x1 = 15) (h4 : gP S 915 x1 = some x2) (h5 : kd S x2 = 21) (h6 : vp_in v1 (ln S x2)) (kt : 15 < ((rI S x2) v1.toNatClampNeg) → K p l e rX12_boxFor s m args below meth c 5 w 0 0 Q S 35 [(0, .ref v0), (2, .int v2)] []) (kf : ¬ 15 < ((rI S x2) v1.toNatClampNeg) → K p l e rX12_boxFor s m args below meth c 5 w 0 0 Q S 31 [(0, .ref v0), (2, .int v2)] []) : K p l e rX12_boxFor s m args below meth c 5 w 0 0 Q S 17 [(0, .ref v0), (1, .int v1), (2, .int v2)] [] := by
  refine k_aload_n B 0 rfl rfl dX12_boxFor_17 ?_
  refine k_getP (f := 846) (r := gP S 846 v0) B 13 14 rfl (by decide) rfl (by decide) rfl rfl (fun w h => in_of (uw_13 w h)) (in_of qfRX12_3) dX12_boxFor_18 h1 rfl ?_
  rw [h2]; change K _ _ _ _ _ _ _ _ _ _ _ _ _ _ _ _ _ _ (.ref x1 :: _)
  refine k_getPN (f := 915) (r := gP S 915 x1) B 14 19 rfl (by decide) rfl (by decide) rfl rfl (fun w h => in_of (uw_14 w h)) "LastMileModel" (nzF_20 B.2.2.2.1.2.2.2.1) dX12_boxFor_21 h3 rfl ?_
  rw [h4]; change K _ _ _ _ _ _ _ _ _ _ _ _ _ _ _ _ _ _ (.ref x2 :: _)
  refine k_iload_n B 1 rfl rfl dX12_boxFor_24 ?_
  refine k_iald (v := (rI S x2) v1.toNatClampNeg) B dX12_boxFor_25 h5 h6 rfl ?_
  refine k_bipush (v := 15) B (by decide) dX12_boxFor_26 ?_
  refine k_icmp_gt (tgt := 35) B dX12_boxFor_28 (by decide) (fun c => ?_) (fun c => ?_)
  · refine k_sub [0, 2] rfl ?_
    exact kt c
  · refine k_sub [0, 2] rfl ?_
    exact kf c
theorem bX12_boxFor_31 (B : Bd p s m args meth c cX12_boxFor 5 (wsOf yX12_boxFor cX12_boxFor 5 (some .int)) RX12 w (some .int) "boxFor") {v0 : Nat} {v2 : Int32} {Q : State → Prop}  (kk : K p l e rX12_boxFor s m args below meth c 5 w 0 0 Q S 36 [(0, .ref v0), (2, .int v2)] [.int 1]) : K p l e rX12_boxFor s m args below meth c 5 w 0 0 Q S 31 [(0, .ref v0), (2, .int v2)] [] := by
  refine k_iconst (v := 1) B (by decide) dX12_boxFor_31 ?_
  refine k_goto (tgt := 36) B dX12_boxFor_32 (by decide) ?_
  exact kk
theorem bX12_boxFor_35 (B : Bd p s m args meth c cX12_boxFor 5 (wsOf yX12_boxFor cX12_boxFor 5 (some .int)) RX12 w (some .int) "boxFor") {v0 : Nat} {v2 : Int32} {Q : State → Prop}  (kk : K p l e rX12_boxFor s m args below meth c 5 w 0 0 Q S 36 [(0, .ref v0), (2, .int v2)] [.int 2]) : K p l e rX12_boxFor s m args below meth c 5 w 0 0 Q S 35 [(0, .ref v0), (2, .int v2)] [] := by
  refine k_iconst (v := 2) B (by decide) dX12_boxFor_35 ?_
  exact kk
theorem bX12_boxFor_36 (B : Bd p s m args meth c cX12_boxFor 5 (wsOf yX12_boxFor cX12_boxFor 5 (some .int)) RX12 w (some .int) "boxFor") {v0 : Nat} {v2 : Int32} {t0 : Int32} {Q : State → Prop}  (kk : K p l e rX12_boxFor s m args below meth c 5 w 0 0 Q S 40 [(0, .ref v0), (2, .int v2), (4, .int t0)] []) : K p l e rX12_boxFor s m args below meth c 5 w 0 0 Q S 36 [(0, .ref v0), (2, .int v2)] [.int t0] := by
  refine k_istore_n (lst' := [(3, .int t0), (0, .ref v0), (2, .int v2)]) B rfl (by decide) rfl dX12_boxFor_36 ?_
  refine k_iload_n B 0 rfl rfl dX12_boxFor_37 ?_
  refine k_istore (lst' := [(4, .int t0), (3, .int t0), (0, .ref v0), (2, .int v2)]) B (by decide) rfl dX12_boxFor_38 ?_
  refine k_sub [2, 3, 0] rfl ?_
  exact kk
theorem bX12_boxFor_40 (B : Bd p s m args meth c cX12_boxFor 5 (wsOf yX12_boxFor cX12_boxFor 5 (some .int)) RX12 w (some .int) "boxFor") {v0 : Nat} {v2 : Int32} {v4 : Int32} {Q : State → Prop}  (kt : 3 ≤ v4 → K p l e rX12_boxFor s m args below meth c 5 w 0 0 Q S 69 [] []) (kf : ¬ 3 ≤ v4 → K p l e rX12_boxFor s m args below meth c 5 w 0 0 Q S 46 [(0, .ref v0), (2, .int v2), (4, .int v4)] []) : K p l e rX12_boxFor s m args below meth c 5 w 0 0 Q S 40 [(0, .ref v0), (2, .int v2), (4, .int v4)] [] := by
  refine k_iload B 2 rfl dX12_boxFor_40 ?_
  refine k_iconst (v := 3) B (by decide) dX12_boxFor_42 ?_
  refine k_icmp_ge (tgt := 69) B dX12_boxFor_43 (by decide) (fun c => ?_) (fun c => ?_)
  · refine k_sub [] rfl ?_
    exact kt c
  · exact kf c
theorem bX12_boxFor_46 (B : Bd p s m args meth c cX12_boxFor 5 (wsOf yX12_boxFor cX12_boxFor 5 (some .int)) RX12 w (some .int) "boxFor") {v0 : Nat} {v2 : Int32} {v4 : Int32} {x1 : Nat} {Q : State → Prop} (h1 : kd S v0 = 14) (h2 : gP S 839 v0 = some x1) (h3 : kd S x1 = 21) (h4 : vp_in ((3 * v2) + v4) (ln S x1)) (kt : ((rI S x1) ((3 * v2) + v4).toNatClampNeg) ≤ 0 → K p l e rX12_boxFor s m args below meth c 5 w 0 0 Q S 63 [(0, .ref v0), (2, .int v2), (4, .int v4)] []) (kf : ¬ ((rI S x1) ((3 * v2) + v4).toNatClampNeg) ≤ 0 → K p l e rX12_boxFor s m args below meth c 5 w 0 0 Q S 60 [(4, .int v4)] []) : K p l e rX12_boxFor s m args below meth c 5 w 0 0 Q S 46 [(0, .ref v0), (2, .int v2), (4, .int v4)] [] := by
  refine k_aload_n B 0 rfl rfl dX12_boxFor_46 ?_
  refine k_getP (f := 839) (r := gP S 839 v0) B 13 7 rfl (by decide) rfl (by decide) rfl rfl (fun w h => in_of (uw_13 w h)) (in_of qfRX12_31) dX12_boxFor_47 h1 rfl ?_
  rw [h2]; change K _ _ _ _ _ _ _ _ _ _ _ _ _ _ _ _ _ _ (.ref x1 :: _)
  refine k_iconst (v := 3) B (by decide) dX12_boxFor_50 ?_
  refine k_iload_n B 1 rfl rfl dX12_boxFor_51 ?_
  refine k_imul B dX12_boxFor_52 ?_
  refine k_iload B 2 rfl dX12_boxFor_53 ?_
  refine k_iadd B dX12_boxFor_55 ?_
  refine k_iald (v := (rI S x1) ((3 * v2) + v4).toNatClampNeg) B dX12_boxFor_56 h3 h4 rfl ?_
  refine k_if_le (tgt := 63) B dX12_boxFor_57 (by decide) (fun c => ?_) (fun c => ?_)
  · exact kt c
  · refine k_sub [2] rfl ?_
    exact kf c
theorem bX12_boxFor_60 (B : Bd p s m args meth c cX12_boxFor 5 (wsOf yX12_boxFor cX12_boxFor 5 (some .int)) RX12 w (some .int) "boxFor") {v4 : Int32} {post : Int32 → St → Prop}  (hq : post v4 S) : K p l e rX12_boxFor s m args below meth c 5 w 0 0 (MQ below (va_Qi post (fun S' t => Hd w S' t.heap) (wA w)) args s 0 0 (wA w)) S 60 [(4, .int v4)] [] := by
  refine k_iload B 0 rfl dX12_boxFor_60 ?_
  exact ret_I B rfl dX12_boxFor_62 (hq)
theorem bX12_boxFor_63 (B : Bd p s m args meth c cX12_boxFor 5 (wsOf yX12_boxFor cX12_boxFor 5 (some .int)) RX12 w (some .int) "boxFor") {v0 : Nat} {v2 : Int32} {v4 : Int32} {Q : State → Prop}  (kk : K p l e rX12_boxFor s m args below meth c 5 w 0 0 Q S 40 [(0, .ref v0), (2, .int v2), (4, .int (v4 + 1))] []) : K p l e rX12_boxFor s m args below meth c 5 w 0 0 Q S 63 [(0, .ref v0), (2, .int v2), (4, .int v4)] [] := by
  refine k_iinc (v := v4 + 1) (lst' := [(4, .int (v4 + 1)), (0, .ref v0), (2, .int v2)]) B 2 rfl rfl (by decide) rfl dX12_boxFor_63 ?_
  refine k_goto (tgt := 40) B dX12_boxFor_66 (by decide) ?_
  refine k_sub [1, 2, 0] rfl ?_
  exact kk
theorem bX12_boxFor_69 (B : Bd p s m args meth c cX12_boxFor 5 (wsOf yX12_boxFor cX12_boxFor 5 (some .int)) RX12 w (some .int) "boxFor") {post : Int32 → St → Prop}  (hq : post (-1) S) : K p l e rX12_boxFor s m args below meth c 5 w 0 0 (MQ below (va_Qi post (fun S' t => Hd w S' t.heap) (wA w)) args s 0 0 (wA w)) S 69 [] [] := by
  refine k_iconst (v := (-1)) B (by decide) dX12_boxFor_69 ?_
  exact ret_I B rfl dX12_boxFor_70 (hq)
theorem bX12_goTo_0 (B : Bd p s m args meth c cX12_goTo 3 (wsOf yX12_goTo cX12_goTo 3 none) RX12 w none "goTo") {v0 : Nat} {v1 : Int32} {v2 : Int32} {x1 : Nat} {post : Int32 → St → Prop} {Q : State → Prop} (h1 : kd S v0 = 14) (h2 : gP S 846 v0 = some x1) (hc : ConI l yX13_apart (wsOf yX13_apart cX13_apart 4 (some .int)) rX13_apart w S [.int (gI S 844 v0), .int (gI S 845 v0), .int v1, .int v2] post) (kk : ∀ (r : Int32) (S' : St), post r S' → K p l e rX12_goTo s m args below meth c 3 w 0 0 Q S' 22 [(0, .ref v0), (1, .int v1), (2, .int v2)] [.int r, .ref x1, .int (gI S 842 v0), .ref v0]) : K p l e rX12_goTo s m args below meth c 3 w 0 0 Q S 0 [(0, .ref v0), (1, .int v1), (2, .int v2)] [] := by
  refine k_aload_n B 0 rfl rfl dX12_goTo_0 ?_
  refine k_dup B rfl dX12_goTo_1 ?_
  refine k_getI (f := 842) (v := gI S 842 v0) B 13 10 rfl (by decide) rfl (by decide) rfl rfl (fun w h => in_of (uw_13 w h)) (in_of qfRX12_60) dX12_goTo_2 h1 rfl ?_
  refine k_aload_n B 0 rfl rfl dX12_goTo_5 ?_
  refine k_getP (f := 846) (r := gP S 846 v0) B 13 14 rfl (by decide) rfl (by decide) rfl rfl (fun w h => in_of (uw_13 w h)) (in_of qfRX12_3) dX12_goTo_6 h1 rfl ?_
  rw [h2]; change K _ _ _ _ _ _ _ _ _ _ _ _ _ _ _ _ _ _ (.ref x1 :: _)
  refine k_aload_n B 0 rfl rfl dX12_goTo_9 ?_
  refine k_getI (f := 844) (v := gI S 844 v0) B 13 12 rfl (by decide) rfl (by decide) rfl rfl (fun w h => in_of (uw_13 w h)) (in_of qfRX12_63) dX12_goTo_10 h1 rfl ?_
  refine k_aload_n B 0 rfl rfl dX12_goTo_13 ?_
  refine k_getI (f := 845) (v := gI S 845 v0) B 13 13 rfl (by decide) rfl (by decide) rfl rfl (fun w h => in_of (uw_13 w h)) (in_of qfRX12_66) dX12_goTo_14 h1 rfl ?_
  refine k_iload_n B 1 rfl rfl dX12_goTo_17 ?_
  refine k_iload_n B 2 rfl rfl dX12_goTo_18 ?_
  refine callSN_I (st := [.ref x1, .int (gI S 842 v0), .ref v0]) B [.int (gI S 844 v0), .int (gI S 845 v0), .int v1, .int v2] (hc) ⟨va_cnB 4 B.1.2.2.2.2 (gB qcX13_apart) rfl rfl rfl (nzM_4 B.2.2.2.1.2.2.2.1) (B.1.2.2.2.2 _ (in_of qzRX13)) (by decide +kernel) ⟨Nat.le_of_ble_eq_true rfl, Nat.le_of_ble_eq_true rfl⟩, B.1.2.2.2.2 _ (in_of qsX13_apart), trivial⟩ rfl (Nat.le_of_ble_eq_true rfl) rfl dX12_goTo_19 ⟨Nat.le_of_ble_eq_true rfl, Nat.le_of_ble_eq_true rfl⟩ (fun r S' hp => ?_)
  exact kk r S' hp
theorem bX12_goTo_22 (B : Bd p s m args meth c cX12_goTo 3 (wsOf yX12_goTo cX12_goTo 3 none) RX12 w none "goTo") {v0 : Nat} {v1 : Int32} {v2 : Int32} {t0 : Nat} {t1 : Int32} {t2 : Nat} {t3 : Int32} {post : Int32 → St → Prop} {Q : State → Prop} (h1 : kd S v0 = 14) (hc : ConI l yX13_minutes (wsOf yX13_minutes cX13_minutes 3 (some .int)) rX13_minutes w S [.ref t2, .int t3, .int (gI S 842 v0)] post) (h2 : kd S t2 = 15) (kk : ∀ (r : Int32) (S' : St), post r S' → K p l e rX12_goTo s m args below meth c 3 w 0 0 Q S' 29 [(0, .ref v0), (1, .int v1), (2, .int v2)] [.int r, .int t1, .ref t0]) : K p l e rX12_goTo s m args below meth c 3 w 0 0 Q S 22 [(0, .ref v0), (1, .int v1), (2, .int v2)] [.int t3, .ref t2, .int t1, .ref t0] := by
  refine k_aload_n B 0 rfl rfl dX12_goTo_22 ?_
  refine k_getI (f := 842) (v := gI S 842 v0) B 13 10 rfl (by decide) rfl (by decide) rfl rfl (fun w h => in_of (uw_13 w h)) (in_of qfRX12_60) dX12_goTo_23 h1 rfl ?_
  refine callVN_I (st := [.int t1, .ref t0]) B [.int t3, .int (gI S 842 v0)] (hc) ⟨va_cnB 2 B.1.2.2.2.2 (gB qcX13_minutes) rfl rfl rfl (nzM_5 B.2.2.2.1.2.2.2.1) (B.1.2.2.2.2 _ (in_of qzRX13)) (by decide +kernel) ⟨Nat.le_of_ble_eq_true rfl, Nat.le_of_ble_eq_true rfl⟩, B.1.2.2.2.2 _ (in_of qiX13_minutes), B.1.2.2.2.2 _ (in_of qeX13_minutes)⟩ rfl rfl (by decide) h2 (Nat.le_of_ble_eq_true rfl) rfl dX12_goTo_26 ⟨Nat.le_of_ble_eq_true rfl, Nat.le_of_ble_eq_true rfl⟩ (fun r S' hp => ?_)
  exact kk r S' hp
theorem bX12_goTo_29 (B : Bd p s m args meth c cX12_goTo 3 (wsOf yX12_goTo cX12_goTo 3 none) RX12 w none "goTo") {v0 : Nat} {v1 : Int32} {v2 : Int32} {t0 : Nat} {t1 : Int32} {t2 : Int32} {post : St → Prop} (h1 : kd S t0 = 14) (h2 : kd S v0 = 14) (hq : post (sI (sI (sI S 842 t0 (t1 + t2)) 844 v0 v1) 845 v0 v2)) : K p l e rX12_goTo s m args below meth c 3 w 0 0 (MQ below (va_Qv post (fun S' t => Hd w S' t.heap) (wA w)) args s 0 0 (wA w)) S 29 [(0, .ref v0), (1, .int v1), (2, .int v2)] [.int t2, .int t1, .ref t0] := by
  refine k_iadd B dX12_goTo_29 ?_
  refine k_putI (f := 842) B 13 10 rfl (by decide) rfl (by decide) rfl rfl (fun w h => in_of (uw_13 w h)) (in_of qfRX12_60) tyX12 tyX12_ok nmX12 rfl (tyX12_ok 10 (by decide)) dX12_goTo_30 h1 ?_
  refine k_aload_n B 0 rfl rfl dX12_goTo_33 ?_
  refine k_iload_n B 1 rfl rfl dX12_goTo_34 ?_
  refine k_putI (f := 844) B 13 12 rfl (by decide) rfl (by decide) rfl rfl (fun w h => in_of (uw_13 w h)) (in_of qfRX12_63) tyX12 tyX12_ok nmX12 rfl (tyX12_ok 12 (by decide)) dX12_goTo_35 h2 ?_
  refine k_aload_n B 0 rfl rfl dX12_goTo_38 ?_
  refine k_iload_n B 2 rfl rfl dX12_goTo_39 ?_
  refine k_putI (f := 845) B 13 13 rfl (by decide) rfl (by decide) rfl rfl (fun w h => in_of (uw_13 w h)) (in_of qfRX12_66) tyX12 tyX12_ok nmX12 rfl (tyX12_ok 13 (by decide)) dX12_goTo_40 h2 ?_
  exact ret_V B rfl dX12_goTo_43 (hq)
theorem bX12_work_0 (B : Bd p s m args meth c cX12_work 3 (wsOf yX12_work cX12_work 3 none) RX12 w none "work") {v0 : Nat} {v1 : Int32} {v2 : Int32} {x1 : Nat} {post : Int32 → St → Prop} {Q : State → Prop} (h1 : kd S v0 = 14) (h2 : gP S 846 v0 = some x1) (hc : ConI l yX13_apart (wsOf yX13_apart cX13_apart 4 (some .int)) rX13_apart w S [.int (gI S 844 v0), .int (gI S 845 v0), .int v1, .int v2] post) (kk : ∀ (r : Int32) (S' : St), post r S' → K p l e rX12_work s m args below meth c 3 w 0 0 Q S' 26 [(0, .ref v0), (1, .int v1), (2, .int v2)] [.int r, .ref x1, .int ((gI S 842 v0) - (gI S 843 v0))]) : K p l e rX12_work s m args below meth c 3 w 0 0 Q S 0 [(0, .ref v0), (1, .int v1), (2, .int v2)] [] := by
  refine k_aload_n B 0 rfl rfl dX12_work_0 ?_
  refine k_getI (f := 842) (v := gI S 842 v0) B 13 10 rfl (by decide) rfl (by decide) rfl rfl (fun w h => in_of (uw_13 w h)) (in_of qfRX12_60) dX12_work_1 h1 rfl ?_
  refine k_aload_n B 0 rfl rfl dX12_work_4 ?_
  refine k_getI (f := 843) (v := gI S 843 v0) B 13 11 rfl (by decide) rfl (by decide) rfl rfl (fun w h => in_of (uw_13 w h)) (in_of qfRX12_77) dX12_work_5 h1 rfl ?_
  refine k_isub B dX12_work_8 ?_
  refine k_aload_n B 0 rfl rfl dX12_work_9 ?_
  refine k_getP (f := 846) (r := gP S 846 v0) B 13 14 rfl (by decide) rfl (by decide) rfl rfl (fun w h => in_of (uw_13 w h)) (in_of qfRX12_3) dX12_work_10 h1 rfl ?_
  rw [h2]; change K _ _ _ _ _ _ _ _ _ _ _ _ _ _ _ _ _ _ (.ref x1 :: _)
  refine k_aload_n B 0 rfl rfl dX12_work_13 ?_
  refine k_getI (f := 844) (v := gI S 844 v0) B 13 12 rfl (by decide) rfl (by decide) rfl rfl (fun w h => in_of (uw_13 w h)) (in_of qfRX12_63) dX12_work_14 h1 rfl ?_
  refine k_aload_n B 0 rfl rfl dX12_work_17 ?_
  refine k_getI (f := 845) (v := gI S 845 v0) B 13 13 rfl (by decide) rfl (by decide) rfl rfl (fun w h => in_of (uw_13 w h)) (in_of qfRX12_66) dX12_work_18 h1 rfl ?_
  refine k_iload_n B 1 rfl rfl dX12_work_21 ?_
  refine k_iload_n B 2 rfl rfl dX12_work_22 ?_
  refine callSN_I (st := [.ref x1, .int ((gI S 842 v0) - (gI S 843 v0))]) B [.int (gI S 844 v0), .int (gI S 845 v0), .int v1, .int v2] (hc) ⟨va_cnB 4 B.1.2.2.2.2 (gB qcX13_apart) rfl rfl rfl (nzM_4 B.2.2.2.1.2.2.2.1) (B.1.2.2.2.2 _ (in_of qzRX13)) (by decide +kernel) ⟨Nat.le_of_ble_eq_true rfl, Nat.le_of_ble_eq_true rfl⟩, B.1.2.2.2.2 _ (in_of qsX13_apart), trivial⟩ rfl (Nat.le_of_ble_eq_true rfl) rfl dX12_work_23 ⟨Nat.le_of_ble_eq_true rfl, Nat.le_of_ble_eq_true rfl⟩ (fun r S' hp => ?_)
  exact kk r S' hp
theorem bX12_work_26 (B : Bd p s m args meth c cX12_work 3 (wsOf yX12_work cX12_work 3 none) RX12 w none "work") {v0 : Nat} {v1 : Int32} {v2 : Int32} {t0 : Int32} {t1 : Nat} {t2 : Int32} {post : Int32 → St → Prop} {Q : State → Prop} (h1 : kd S v0 = 14) (hc : ConI l yX13_minutes (wsOf yX13_minutes cX13_minutes 3 (some .int)) rX13_minutes w S [.ref t1, .int t2, .int (gI S 842 v0)] post) (h2 : kd S t1 = 15) (kk : ∀ (r : Int32) (S' : St), post r S' → K p l e rX12_work s m args below meth c 3 w 0 0 Q S' 33 [(0, .ref v0), (1, .int v1), (2, .int v2)] [.int r, .int t0]) : K p l e rX12_work s m args below meth c 3 w 0 0 Q S 26 [(0, .ref v0), (1, .int v1), (2, .int v2)] [.int t2, .ref t1, .int t0] := by
  refine k_aload_n B 0 rfl rfl dX12_work_26 ?_
  refine k_getI (f := 842) (v := gI S 842 v0) B 13 10 rfl (by decide) rfl (by decide) rfl rfl (fun w h => in_of (uw_13 w h)) (in_of qfRX12_60) dX12_work_27 h1 rfl ?_
  refine callVN_I (st := [.int t0]) B [.int t2, .int (gI S 842 v0)] (hc) ⟨va_cnB 2 B.1.2.2.2.2 (gB qcX13_minutes) rfl rfl rfl (nzM_5 B.2.2.2.1.2.2.2.1) (B.1.2.2.2.2 _ (in_of qzRX13)) (by decide +kernel) ⟨Nat.le_of_ble_eq_true rfl, Nat.le_of_ble_eq_true rfl⟩, B.1.2.2.2.2 _ (in_of qiX13_minutes), B.1.2.2.2.2 _ (in_of qeX13_minutes)⟩ rfl rfl (by decide) h2 (Nat.le_of_ble_eq_true rfl) rfl dX12_work_30 ⟨Nat.le_of_ble_eq_true rfl, Nat.le_of_ble_eq_true rfl⟩ (fun r S' hp => ?_)
  exact kk r S' hp
theorem bX12_work_33 (B : Bd p s m args meth c cX12_work 3 (wsOf yX12_work cX12_work 3 none) RX12 w none "work") {v0 : Nat} {v1 : Int32} {v2 : Int32} {t0 : Int32} {t1 : Int32} {Q : State → Prop}  (kt : (t0 + t1) ≤ 240 → K p l e rX12_work s m args below meth c 3 w 0 0 Q S 59 [(0, .ref v0), (1, .int v1), (2, .int v2)] []) (kf : ¬ (t0 + t1) ≤ 240 → K p l e rX12_work s m args below meth c 3 w 0 0 Q S 40 [(0, .ref v0), (1, .int v1), (2, .int v2)] []) : K p l e rX12_work s m args below meth c 3 w 0 0 Q S 33 [(0, .ref v0), (1, .int v1), (2, .int v2)] [.int t1, .int t0] := by
  refine k_iadd B dX12_work_33 ?_
  refine k_sipush (v := 240) B (by decide) dX12_work_34 ?_
  refine k_icmp_le (tgt := 59) B dX12_work_37 (by decide) (fun c => ?_) (fun c => ?_)
  · exact kt c
  · exact kf c
theorem bX12_work_40 (B : Bd p s m args meth c cX12_work 3 (wsOf yX12_work cX12_work 3 none) RX12 w none "work") {v0 : Nat} {v1 : Int32} {v2 : Int32} {Q : State → Prop} (h1 : kd S v0 = 14) (kk : K p l e rX12_work s m args below meth c 3 w 0 0 Q (sI (sI S 842 v0 ((gI S 842 v0) + 30)) 843 v0 ((gI S 842 v0) + 30)) 59 [(0, .ref v0), (1, .int v1), (2, .int v2)] []) : K p l e rX12_work s m args below meth c 3 w 0 0 Q S 40 [(0, .ref v0), (1, .int v1), (2, .int v2)] [] := by
  refine k_aload_n B 0 rfl rfl dX12_work_40 ?_
  refine k_dup B rfl dX12_work_41 ?_
  refine k_getI (f := 842) (v := gI S 842 v0) B 13 10 rfl (by decide) rfl (by decide) rfl rfl (fun w h => in_of (uw_13 w h)) (in_of qfRX12_60) dX12_work_42 h1 rfl ?_
  refine k_bipush (v := 30) B (by decide) dX12_work_45 ?_
  refine k_iadd B dX12_work_47 ?_
  refine k_putI (f := 842) B 13 10 rfl (by decide) rfl (by decide) rfl rfl (fun w h => in_of (uw_13 w h)) (in_of qfRX12_60) tyX12 tyX12_ok nmX12 rfl (tyX12_ok 10 (by decide)) dX12_work_48 h1 ?_
  refine k_aload_n B 0 rfl rfl dX12_work_51 ?_
  refine k_aload_n B 0 rfl rfl dX12_work_52 ?_
  refine k_getI (f := 842) (v := (gI S 842 v0) + 30) B 13 10 rfl (by decide) rfl (by decide) rfl rfl (fun w h => in_of (uw_13 w h)) (in_of qfRX12_60) dX12_work_53 h1 (by simp [kd_sI, kd_sP, kd_sRI, kd_sRP, kd_nw, gI_sI, gI_sP, gI_sRI, gI_sRP, gI_nw, gP_sI, gP_sP, gP_sRI, gP_sRP, gP_nw, ln_sI, ln_sP, ln_sRI, ln_sRP, ln_nw, rI_sI, rI_sP, rI_sRI, rI_sRP, rI_nw, rP_sI, rP_sP, rP_sRI, rP_sRP, rP_nw, va_up_self]) ?_
  refine k_putI (f := 843) B 13 11 rfl (by decide) rfl (by decide) rfl rfl (fun w h => in_of (uw_13 w h)) (in_of qfRX12_77) tyX12 tyX12_ok nmX12 rfl (tyX12_ok 11 (by decide)) dX12_work_56 h1 ?_
  exact kk
theorem bX12_work_59 (B : Bd p s m args meth c cX12_work 3 (wsOf yX12_work cX12_work 3 none) RX12 w none "work") {v0 : Nat} {v1 : Int32} {v2 : Int32} {post : St → Prop} {Q : State → Prop} (hc : ConV l yX12_goTo (wsOf yX12_goTo cX12_goTo 3 none) rX12_goTo w S [.ref v0, .int v1, .int v2] post) (h1 : kd S v0 = 14) (kk : ∀ (S' : St), post S' → K p l e rX12_work s m args below meth c 3 w 0 0 Q S' 65 [] []) : K p l e rX12_work s m args below meth c 3 w 0 0 Q S 59 [(0, .ref v0), (1, .int v1), (2, .int v2)] [] := by
  refine k_aload_n B 0 rfl rfl dX12_work_59 ?_
  refine k_iload_n B 1 rfl rfl dX12_work_60 ?_
  refine k_iload_n B 2 rfl rfl dX12_work_61 ?_
  refine callV_V (st := []) B [.int v1, .int v2] (hc) (cwV 2 B.1.2.2.2.2 (gV qlRX12_80 qiX12_goTo qeX12_goTo qzRX12 qcX12_goTo) rfl rfl rfl (by decide +kernel) ⟨Nat.le_of_ble_eq_true rfl, Nat.le_of_ble_eq_true rfl⟩) rfl rfl (by decide) h1 (Nat.le_of_ble_eq_true rfl) rfl dX12_work_62 ⟨Nat.le_of_ble_eq_true rfl, Nat.le_of_ble_eq_true rfl⟩ (fun S' hp => ?_)
  refine k_sub [] rfl ?_
  exact kk S' hp
theorem bX12_work_65 (B : Bd p s m args meth c cX12_work 3 (wsOf yX12_work cX12_work 3 none) RX12 w none "work") {post : St → Prop}  (hq : post S) : K p l e rX12_work s m args below meth c 3 w 0 0 (MQ below (va_Qv post (fun S' t => Hd w S' t.heap) (wA w)) args s 0 0 (wA w)) S 65 [] [] := by
  exact ret_V B rfl dX12_work_65 (hq)
theorem bX12_isHome_0 (B : Bd p s m args meth c cX12_isHome 2 (wsOf yX12_isHome cX12_isHome 2 (some .boolean)) RX12 w (some .boolean) "isHome") {v0 : Nat} {v1 : Int32} {x1 : Nat} {x2 : Nat} {Q : State → Prop} (h1 : kd S v0 = 14) (h2 : gP S 846 v0 = some x1) (h3 : kd S x1 = 15) (h4 : gP S 903 x1 = some x2) (h5 : kd S x2 = 21) (h6 : vp_in v1 (ln S x2)) (kt : ¬ ((((rI S x2) v1.toNatClampNeg) >>> ((((gI S 842 v0) / 60) - ((gI S 842 v0) / 60) / 24 * 24) &&& 31)) &&& 1) = 1 → K p l e rX12_isHome s m args below meth c 2 w 0 0 Q S 30 [] []) (kf : ((((rI S x2) v1.toNatClampNeg) >>> ((((gI S 842 v0) / 60) - ((gI S 842 v0) / 60) / 24 * 24) &&& 31)) &&& 1) = 1 → K p l e rX12_isHome s m args below meth c 2 w 0 0 Q S 26 [] []) : K p l e rX12_isHome s m args below meth c 2 w 0 0 Q S 0 [(0, .ref v0), (1, .int v1)] [] := by
  refine k_aload_n B 0 rfl rfl dX12_isHome_0 ?_
  refine k_getP (f := 846) (r := gP S 846 v0) B 13 14 rfl (by decide) rfl (by decide) rfl rfl (fun w h => in_of (uw_13 w h)) (in_of qfRX12_3) dX12_isHome_1 h1 rfl ?_
  rw [h2]; change K _ _ _ _ _ _ _ _ _ _ _ _ _ _ _ _ _ _ (.ref x1 :: _)
  refine k_getPN (f := 903) (r := gP S 903 x1) B 14 7 rfl (by decide) rfl (by decide) rfl rfl (fun w h => in_of (uw_14 w h)) "LastMileModel" (nzF_21 B.2.2.2.1.2.2.2.1) dX12_isHome_4 h3 rfl ?_
  rw [h4]; change K _ _ _ _ _ _ _ _ _ _ _ _ _ _ _ _ _ _ (.ref x2 :: _)
  refine k_iload_n B 1 rfl rfl dX12_isHome_7 ?_
  refine k_iald (v := (rI S x2) v1.toNatClampNeg) B dX12_isHome_8 h5 h6 rfl ?_
  refine k_aload_n B 0 rfl rfl dX12_isHome_9 ?_
  refine k_getI (f := 842) (v := gI S 842 v0) B 13 10 rfl (by decide) rfl (by decide) rfl rfl (fun w h => in_of (uw_13 w h)) (in_of qfRX12_60) dX12_isHome_10 h1 rfl ?_
  refine k_bipush (v := 60) B (by decide) dX12_isHome_13 ?_
  refine k_idiv B (by decide) dX12_isHome_15 ?_
  refine k_bipush (v := 24) B (by decide) dX12_isHome_16 ?_
  refine k_irem B (by decide) dX12_isHome_18 ?_
  refine k_ishr B dX12_isHome_19 ?_
  refine k_iconst (v := 1) B (by decide) dX12_isHome_20 ?_
  refine k_iand B dX12_isHome_21 ?_
  refine k_iconst (v := 1) B (by decide) dX12_isHome_22 ?_
  refine k_icmp_ne (tgt := 30) B dX12_isHome_23 (by decide) (fun c => ?_) (fun c => ?_)
  · refine k_sub [] rfl ?_
    exact kt c
  · refine k_sub [] rfl ?_
    exact kf c
theorem bX12_isHome_26 (B : Bd p s m args meth c cX12_isHome 2 (wsOf yX12_isHome cX12_isHome 2 (some .boolean)) RX12 w (some .boolean) "isHome") {Q : State → Prop}  (kk : K p l e rX12_isHome s m args below meth c 2 w 0 0 Q S 31 [] [.int 1]) : K p l e rX12_isHome s m args below meth c 2 w 0 0 Q S 26 [] [] := by
  refine k_iconst (v := 1) B (by decide) dX12_isHome_26 ?_
  refine k_goto (tgt := 31) B dX12_isHome_27 (by decide) ?_
  exact kk
theorem bX12_isHome_30 (B : Bd p s m args meth c cX12_isHome 2 (wsOf yX12_isHome cX12_isHome 2 (some .boolean)) RX12 w (some .boolean) "isHome") {Q : State → Prop}  (kk : K p l e rX12_isHome s m args below meth c 2 w 0 0 Q S 31 [] [.int 0]) : K p l e rX12_isHome s m args below meth c 2 w 0 0 Q S 30 [] [] := by
  refine k_iconst (v := 0) B (by decide) dX12_isHome_30 ?_
  exact kk
theorem bX12_isHome_31 (B : Bd p s m args meth c cX12_isHome 2 (wsOf yX12_isHome cX12_isHome 2 (some .boolean)) RX12 w (some .boolean) "isHome") {t0 : Int32} {post : Int32 → St → Prop}  (hv : t0 = 0 ∨ t0 = 1) (hq : post t0 S) : K p l e rX12_isHome s m args below meth c 2 w 0 0 (MQ below (va_Qi post (fun S' t => Hd w S' t.heap) (wA w)) args s 0 0 (wA w)) S 31 [] [.int t0] := by
  exact ret_Z B rfl dX12_isHome_31 (hv) (hq)
theorem bX12_isPlaced_0 (B : Bd p s m args meth c cX12_isPlaced 6 (wsOf yX12_isPlaced cX12_isPlaced 6 (some .boolean)) RX12 w (some .boolean) "isPlaced") {v0 : Nat} {v1 : Int32} {x1 : Nat} {x2 : Nat} {Q : State → Prop} (h1 : kd S v0 = 14) (h2 : gP S 846 v0 = some x1) (h3 : kd S x1 = 15) (h4 : gP S 916 x1 = some x2) (h5 : kd S x2 = 21) (h6 : vp_in v1 (ln S x2)) (kk : K p l e rX12_isPlaced s m args below meth c 6 w 0 0 Q S 12 [(0, .ref v0), (1, .int v1), (2, .int ((rI S x2) v1.toNatClampNeg)), (3, .int 0)] []) : K p l e rX12_isPlaced s m args below meth c 6 w 0 0 Q S 0 [(0, .ref v0), (1, .int v1)] [] := by
  refine k_aload_n B 0 rfl rfl dX12_isPlaced_0 ?_
  refine k_getP (f := 846) (r := gP S 846 v0) B 13 14 rfl (by decide) rfl (by decide) rfl rfl (fun w h => in_of (uw_13 w h)) (in_of qfRX12_3) dX12_isPlaced_1 h1 rfl ?_
  rw [h2]; change K _ _ _ _ _ _ _ _ _ _ _ _ _ _ _ _ _ _ (.ref x1 :: _)
  refine k_getPN (f := 916) (r := gP S 916 x1) B 14 20 rfl (by decide) rfl (by decide) rfl rfl (fun w h => in_of (uw_14 w h)) "LastMileModel" (nzF_22 B.2.2.2.1.2.2.2.1) dX12_isPlaced_4 h3 rfl ?_
  rw [h4]; change K _ _ _ _ _ _ _ _ _ _ _ _ _ _ _ _ _ _ (.ref x2 :: _)
  refine k_iload_n B 1 rfl rfl dX12_isPlaced_7 ?_
  refine k_iald (v := (rI S x2) v1.toNatClampNeg) B dX12_isPlaced_8 h5 h6 rfl ?_
  refine k_istore_n (lst' := [(2, .int ((rI S x2) v1.toNatClampNeg)), (0, .ref v0), (1, .int v1)]) B rfl (by decide) rfl dX12_isPlaced_9 ?_
  refine k_iconst (v := 0) B (by decide) dX12_isPlaced_10 ?_
  refine k_istore_n (lst' := [(3, .int 0), (2, .int ((rI S x2) v1.toNatClampNeg)), (0, .ref v0), (1, .int v1)]) B rfl (by decide) rfl dX12_isPlaced_11 ?_
  refine k_sub [2, 3, 1, 0] rfl ?_
  exact kk
theorem bX12_isPlaced_12 (B : Bd p s m args meth c cX12_isPlaced 6 (wsOf yX12_isPlaced cX12_isPlaced 6 (some .boolean)) RX12 w (some .boolean) "isPlaced") {v0 : Nat} {v1 : Int32} {v2 : Int32} {v3 : Int32} {x1 : Nat} {x2 : Nat} {Q : State → Prop} (h1 : kd S v0 = 14) (h2 : gP S 846 v0 = some x1) (h3 : kd S x1 = 15) (h4 : gP S 904 x1 = some x2) (h5 : kd S x2 = 21) (h6 : vp_in v2 (ln S x2)) (kt : ((rI S x2) v2.toNatClampNeg) ≤ v3 → K p l e rX12_isPlaced s m args below meth c 6 w 0 0 Q S 339 [] []) (kf : ¬ ((rI S x2) v2.toNatClampNeg) ≤ v3 → K p l e rX12_isPlaced s m args below meth c 6 w 0 0 Q S 25 [(0, .ref v0), (1, .int v1), (2, .int v2), (3, .int v3)] []) : K p l e rX12_isPlaced s m args below meth c 6 w 0 0 Q S 12 [(0, .ref v0), (1, .int v1), (2, .int v2), (3, .int v3)] [] := by
  refine k_iload_n B 3 rfl rfl dX12_isPlaced_12 ?_
  refine k_aload_n B 0 rfl rfl dX12_isPlaced_13 ?_
  refine k_getP (f := 846) (r := gP S 846 v0) B 13 14 rfl (by decide) rfl (by decide) rfl rfl (fun w h => in_of (uw_13 w h)) (in_of qfRX12_3) dX12_isPlaced_14 h1 rfl ?_
  rw [h2]; change K _ _ _ _ _ _ _ _ _ _ _ _ _ _ _ _ _ _ (.ref x1 :: _)
  refine k_getPN (f := 904) (r := gP S 904 x1) B 14 8 rfl (by decide) rfl (by decide) rfl rfl (fun w h => in_of (uw_14 w h)) "LastMileModel" (nzF_23 B.2.2.2.1.2.2.2.1) dX12_isPlaced_17 h3 rfl ?_
  rw [h4]; change K _ _ _ _ _ _ _ _ _ _ _ _ _ _ _ _ _ _ (.ref x2 :: _)
  refine k_iload_n B 2 rfl rfl dX12_isPlaced_20 ?_
  refine k_iald (v := (rI S x2) v2.toNatClampNeg) B dX12_isPlaced_21 h5 h6 rfl ?_
  refine k_icmp_ge (tgt := 339) B dX12_isPlaced_22 (by decide) (fun c => ?_) (fun c => ?_)
  · refine k_sub [] rfl ?_
    exact kt c
  · exact kf c
theorem bX12_isPlaced_25 (B : Bd p s m args meth c cX12_isPlaced 6 (wsOf yX12_isPlaced cX12_isPlaced 6 (some .boolean)) RX12 w (some .boolean) "isPlaced") {v0 : Nat} {v1 : Int32} {v2 : Int32} {v3 : Int32} {x1 : Nat} {x2 : Nat} {x3 : Nat} {x4 : Nat} {Q : State → Prop} (h1 : kd S v0 = 14) (h2 : gP S 846 v0 = some x1) (h3 : kd S x1 = 15) (h4 : gP S 905 x1 = some x2) (h5 : kd S x2 = 21) (h6 : vp_in ((3 * v2) + v3) (ln S x2)) (h7 : gP S 846 v0 = some x3) (h8 : kd S x3 = 15) (h9 : gP S 905 x3 = some x4) (h10 : kd S x4 = 21) (h11 : vp_in ((3 * v2) + v3) (ln S x4)) (kt : 200 ≤ ((rI S x4) ((3 * v2) + v3).toNatClampNeg) → K p l e rX12_isPlaced s m args below meth c 6 w 0 0 Q S 221 [(0, .ref v0), (1, .int v1), (2, .int v2), (3, .int v3), (4, .int (((rI S x2) ((3 * v2) + v3).toNatClampNeg) - ((rI S x2) ((3 * v2) + v3).toNatClampNeg) / 100 * 100))] []) (kf : ¬ 200 ≤ ((rI S x4) ((3 * v2) + v3).toNatClampNeg) → K p l e rX12_isPlaced s m args below meth c 6 w 0 0 Q S 62 [(0, .ref v0), (1, .int v1), (2, .int v2), (3, .int v3), (4, .int (((rI S x2) ((3 * v2) + v3).toNatClampNeg) - ((rI S x2) ((3 * v2) + v3).toNatClampNeg) / 100 * 100))] []) : K p l e rX12_isPlaced s m args below meth c 6 w 0 0 Q S 25 [(0, .ref v0), (1, .int v1), (2, .int v2), (3, .int v3)] [] := by
  refine k_aload_n B 0 rfl rfl dX12_isPlaced_25 ?_
  refine k_getP (f := 846) (r := gP S 846 v0) B 13 14 rfl (by decide) rfl (by decide) rfl rfl (fun w h => in_of (uw_13 w h)) (in_of qfRX12_3) dX12_isPlaced_26 h1 rfl ?_
  rw [h2]; change K _ _ _ _ _ _ _ _ _ _ _ _ _ _ _ _ _ _ (.ref x1 :: _)
  refine k_getPN (f := 905) (r := gP S 905 x1) B 14 9 rfl (by decide) rfl (by decide) rfl rfl (fun w h => in_of (uw_14 w h)) "LastMileModel" (nzF_24 B.2.2.2.1.2.2.2.1) dX12_isPlaced_29 h3 rfl ?_
  rw [h4]; change K _ _ _ _ _ _ _ _ _ _ _ _ _ _ _ _ _ _ (.ref x2 :: _)
  refine k_iconst (v := 3) B (by decide) dX12_isPlaced_32 ?_
  refine k_iload_n B 2 rfl rfl dX12_isPlaced_33 ?_
  refine k_imul B dX12_isPlaced_34 ?_
  refine k_iload_n B 3 rfl rfl dX12_isPlaced_35 ?_
  refine k_iadd B dX12_isPlaced_36 ?_
  refine k_iald (v := (rI S x2) ((3 * v2) + v3).toNatClampNeg) B dX12_isPlaced_37 h5 h6 rfl ?_
  refine k_bipush (v := 100) B (by decide) dX12_isPlaced_38 ?_
  refine k_irem B (by decide) dX12_isPlaced_40 ?_
  refine k_istore (lst' := [(4, .int (((rI S x2) ((3 * v2) + v3).toNatClampNeg) - ((rI S x2) ((3 * v2) + v3).toNatClampNeg) / 100 * 100)), (0, .ref v0), (1, .int v1), (2, .int v2), (3, .int v3)]) B (by decide) rfl dX12_isPlaced_41 ?_
  refine k_aload_n B 1 rfl rfl dX12_isPlaced_43 ?_
  refine k_getP (f := 846) (r := gP S 846 v0) B 13 14 rfl (by decide) rfl (by decide) rfl rfl (fun w h => in_of (uw_13 w h)) (in_of qfRX12_3) dX12_isPlaced_44 h1 rfl ?_
  rw [h7]; change K _ _ _ _ _ _ _ _ _ _ _ _ _ _ _ _ _ _ (.ref x3 :: _)
  refine k_getPN (f := 905) (r := gP S 905 x3) B 14 9 rfl (by decide) rfl (by decide) rfl rfl (fun w h => in_of (uw_14 w h)) "LastMileModel" (nzF_24 B.2.2.2.1.2.2.2.1) dX12_isPlaced_47 h8 rfl ?_
  rw [h9]; change K _ _ _ _ _ _ _ _ _ _ _ _ _ _ _ _ _ _ (.ref x4 :: _)
  refine k_iconst (v := 3) B (by decide) dX12_isPlaced_50 ?_
  refine k_iload_n B 3 rfl rfl dX12_isPlaced_51 ?_
  refine k_imul B dX12_isPlaced_52 ?_
  refine k_iload_n B 4 rfl rfl dX12_isPlaced_53 ?_
  refine k_iadd B dX12_isPlaced_54 ?_
  refine k_iald (v := (rI S x4) ((3 * v2) + v3).toNatClampNeg) B dX12_isPlaced_55 h10 h11 rfl ?_
  refine k_sipush (v := 200) B (by decide) dX12_isPlaced_56 ?_
  refine k_icmp_ge (tgt := 221) B dX12_isPlaced_59 (by decide) (fun c => ?_) (fun c => ?_)
  · refine k_sub [1, 2, 3, 4, 0] rfl ?_
    exact kt c
  · refine k_sub [1, 2, 3, 4, 0] rfl ?_
    exact kf c
theorem bX12_isPlaced_62 (B : Bd p s m args meth c cX12_isPlaced 6 (wsOf yX12_isPlaced cX12_isPlaced 6 (some .boolean)) RX12 w (some .boolean) "isPlaced") {v0 : Nat} {v1 : Int32} {v2 : Int32} {v3 : Int32} {v4 : Int32} {post : Int32 → St → Prop} {Q : State → Prop} (hc : ConI l yX12_boxFor (wsOf yX12_boxFor cX12_boxFor 5 (some .int)) rX12_boxFor w S [.ref v0, .int v1, .int v4] post) (h1 : kd S v0 = 14) (kk : ∀ (r : Int32) (S' : St), post r S' → K p l e rX12_isPlaced s m args below meth c 6 w 0 0 Q S' 69 [(0, .ref v0), (1, .int v1), (2, .int v2), (3, .int v3), (4, .int v4)] [.int r]) : K p l e rX12_isPlaced s m args below meth c 6 w 0 0 Q S 62 [(0, .ref v0), (1, .int v1), (2, .int v2), (3, .int v3), (4, .int v4)] [] := by
  refine k_aload_n B 0 rfl rfl dX12_isPlaced_62 ?_
  refine k_iload_n B 1 rfl rfl dX12_isPlaced_63 ?_
  refine k_iload B 4 rfl dX12_isPlaced_64 ?_
  refine callV_I (st := []) B [.int v1, .int v4] (hc) (cwV 2 B.1.2.2.2.2 (gV qlRX12_96 qiX12_boxFor qeX12_boxFor qzRX12 qcX12_boxFor) rfl rfl rfl (by decide +kernel) ⟨Nat.le_of_ble_eq_true rfl, Nat.le_of_ble_eq_true rfl⟩) rfl rfl (by decide) h1 (Nat.le_of_ble_eq_true rfl) rfl dX12_isPlaced_66 ⟨Nat.le_of_ble_eq_true rfl, Nat.le_of_ble_eq_true rfl⟩ (fun r S' hp => ?_)
  exact kk r S' hp
theorem bX12_isPlaced_69 (B : Bd p s m args meth c cX12_isPlaced 6 (wsOf yX12_isPlaced cX12_isPlaced 6 (some .boolean)) RX12 w (some .boolean) "isPlaced") {v0 : Nat} {v1 : Int32} {v2 : Int32} {v3 : Int32} {v4 : Int32} {t0 : Int32} {x1 : Nat} {x2 : Nat} {Q : State → Prop} (h1 : kd S v0 = 14) (h2 : gP S 846 v0 = some x1) (h3 : kd S x1 = 15) (h4 : gP S 914 x1 = some x2) (h5 : kd S x2 = 21) (h6 : vp_in v1 (ln S x2)) (kt : ((rI S x2) v1.toNatClampNeg) = 1 → K p l e rX12_isPlaced s m args below meth c 6 w 0 0 Q S 333 [(0, .ref v0), (1, .int v1), (2, .int v2), (3, .int v3)] []) (kf : ¬ ((rI S x2) v1.toNatClampNeg) = 1 → K p l e rX12_isPlaced s m args below meth c 6 w 0 0 Q S 84 [(0, .ref v0), (1, .int v1), (2, .int v2), (3, .int v3), (4, .int v4), (5, .int t0)] []) : K p l e rX12_isPlaced s m args below meth c 6 w 0 0 Q S 69 [(0, .ref v0), (1, .int v1), (2, .int v2), (3, .int v3), (4, .int v4)] [.int t0] := by
  refine k_istore (lst' := [(5, .int t0), (0, .ref v0), (1, .int v1), (2, .int v2), (3, .int v3), (4, .int v4)]) B (by decide) rfl dX12_isPlaced_69 ?_
  refine k_aload_n B 1 rfl rfl dX12_isPlaced_71 ?_
  refine k_getP (f := 846) (r := gP S 846 v0) B 13 14 rfl (by decide) rfl (by decide) rfl rfl (fun w h => in_of (uw_13 w h)) (in_of qfRX12_3) dX12_isPlaced_72 h1 rfl ?_
  rw [h2]; change K _ _ _ _ _ _ _ _ _ _ _ _ _ _ _ _ _ _ (.ref x1 :: _)
  refine k_getPN (f := 914) (r := gP S 914 x1) B 14 18 rfl (by decide) rfl (by decide) rfl rfl (fun w h => in_of (uw_14 w h)) "LastMileModel" (nzF_25 B.2.2.2.1.2.2.2.1) dX12_isPlaced_75 h3 rfl ?_
  rw [h4]; change K _ _ _ _ _ _ _ _ _ _ _ _ _ _ _ _ _ _ (.ref x2 :: _)
  refine k_iload_n B 2 rfl rfl dX12_isPlaced_78 ?_
  refine k_iald (v := (rI S x2) v1.toNatClampNeg) B dX12_isPlaced_79 h5 h6 rfl ?_
  refine k_iconst (v := 1) B (by decide) dX12_isPlaced_80 ?_
  refine k_icmp_eq (tgt := 333) B dX12_isPlaced_81 (by decide) (fun c => ?_) (fun c => ?_)
  · refine k_sub [1, 2, 3, 4] rfl ?_
    exact kt c
  · refine k_sub [1, 2, 3, 4, 5, 0] rfl ?_
    exact kf c
theorem bX12_isPlaced_84 (B : Bd p s m args meth c cX12_isPlaced 6 (wsOf yX12_isPlaced cX12_isPlaced 6 (some .boolean)) RX12 w (some .boolean) "isPlaced") {v0 : Nat} {v1 : Int32} {v2 : Int32} {v3 : Int32} {v4 : Int32} {v5 : Int32} {Q : State → Prop}  (kt : v5 = (-1) → K p l e rX12_isPlaced s m args below meth c 6 w 0 0 Q S 333 [(0, .ref v0), (1, .int v1), (2, .int v2), (3, .int v3)] []) (kf : ¬ v5 = (-1) → K p l e rX12_isPlaced s m args below meth c 6 w 0 0 Q S 90 [(0, .ref v0), (1, .int v1), (2, .int v2), (3, .int v3), (4, .int v4), (5, .int v5)] []) : K p l e rX12_isPlaced s m args below meth c 6 w 0 0 Q S 84 [(0, .ref v0), (1, .int v1), (2, .int v2), (3, .int v3), (4, .int v4), (5, .int v5)] [] := by
  refine k_iload B 5 rfl dX12_isPlaced_84 ?_
  refine k_iconst (v := (-1)) B (by decide) dX12_isPlaced_86 ?_
  refine k_icmp_eq (tgt := 333) B dX12_isPlaced_87 (by decide) (fun c => ?_) (fun c => ?_)
  · refine k_sub [0, 1, 2, 3] rfl ?_
    exact kt c
  · exact kf c
theorem bX12_isPlaced_90 (B : Bd p s m args meth c cX12_isPlaced 6 (wsOf yX12_isPlaced cX12_isPlaced 6 (some .boolean)) RX12 w (some .boolean) "isPlaced") {v0 : Nat} {v1 : Int32} {v2 : Int32} {v3 : Int32} {v4 : Int32} {v5 : Int32} {x1 : Nat} {x2 : Nat} {x3 : Nat} {x4 : Nat} {x5 : Nat} {x6 : Nat} {x7 : Nat} {x8 : Nat} {post : Int32 → St → Prop} {Q : State → Prop} (h1 : kd S v0 = 14) (h2 : gP S 846 v0 = some x1) (h3 : kd S x1 = 15) (h4 : gP S 901 x1 = some x2) (h5 : kd S x2 = 21) (h6 : vp_in v2 (ln S x2)) (h7 : gP S 846 v0 = some x3) (h8 : kd S x3 = 15) (h9 : gP S 902 x3 = some x4) (h10 : kd S x4 = 21) (h11 : vp_in v2 (ln S x4)) (h12 : gP S 846 v0 = some x5) (h13 : kd S x5 = 15) (h14 : gP S 907 x5 = some x6) (h15 : kd S x6 = 21) (h16 : vp_in v4 (ln S x6)) (h17 : gP S 846 v0 = some x7) (h18 : kd S x7 = 15) (h19 : gP S 908 x7 = some x8) (h20 : kd S x8 = 21) (h21 : vp_in v4 (ln S x8)) (hc : ConI l yX13_apart (wsOf yX13_apart cX13_apart 4 (some .int)) rX13_apart w S [.int ((rI S x2) v2.toNatClampNeg), .int ((rI S x4) v2.toNatClampNeg), .int ((rI S x6) v4.toNatClampNeg), .int ((rI S x8) v4.toNatClampNeg)] post) (kk : ∀ (r : Int32) (S' : St), post r S' → K p l e rX12_isPlaced s m args below meth c 6 w 0 0 Q S' 131 [(0, .ref v0), (1, .int v1), (2, .int v2), (3, .int v3), (4, .int v4), (5, .int v5)] [.int r]) : K p l e rX12_isPlaced s m args below meth c 6 w 0 0 Q S 90 [(0, .ref v0), (1, .int v1), (2, .int v2), (3, .int v3), (4, .int v4), (5, .int v5)] [] := by
  refine k_aload_n B 0 rfl rfl dX12_isPlaced_90 ?_
  refine k_getP (f := 846) (r := gP S 846 v0) B 13 14 rfl (by decide) rfl (by decide) rfl rfl (fun w h => in_of (uw_13 w h)) (in_of qfRX12_3) dX12_isPlaced_91 h1 rfl ?_
  rw [h2]; change K _ _ _ _ _ _ _ _ _ _ _ _ _ _ _ _ _ _ (.ref x1 :: _)
  refine k_getPN (f := 901) (r := gP S 901 x1) B 14 5 rfl (by decide) rfl (by decide) rfl rfl (fun w h => in_of (uw_14 w h)) "LastMileModel" (nzF_9 B.2.2.2.1.2.2.2.1) dX12_isPlaced_94 h3 rfl ?_
  rw [h4]; change K _ _ _ _ _ _ _ _ _ _ _ _ _ _ _ _ _ _ (.ref x2 :: _)
  refine k_iload_n B 2 rfl rfl dX12_isPlaced_97 ?_
  refine k_iald (v := (rI S x2) v2.toNatClampNeg) B dX12_isPlaced_98 h5 h6 rfl ?_
  refine k_aload_n B 0 rfl rfl dX12_isPlaced_99 ?_
  refine k_getP (f := 846) (r := gP S 846 v0) B 13 14 rfl (by decide) rfl (by decide) rfl rfl (fun w h => in_of (uw_13 w h)) (in_of qfRX12_3) dX12_isPlaced_100 h1 rfl ?_
  rw [h7]; change K _ _ _ _ _ _ _ _ _ _ _ _ _ _ _ _ _ _ (.ref x3 :: _)
  refine k_getPN (f := 902) (r := gP S 902 x3) B 14 6 rfl (by decide) rfl (by decide) rfl rfl (fun w h => in_of (uw_14 w h)) "LastMileModel" (nzF_10 B.2.2.2.1.2.2.2.1) dX12_isPlaced_103 h8 rfl ?_
  rw [h9]; change K _ _ _ _ _ _ _ _ _ _ _ _ _ _ _ _ _ _ (.ref x4 :: _)
  refine k_iload_n B 2 rfl rfl dX12_isPlaced_106 ?_
  refine k_iald (v := (rI S x4) v2.toNatClampNeg) B dX12_isPlaced_107 h10 h11 rfl ?_
  refine k_aload_n B 0 rfl rfl dX12_isPlaced_108 ?_
  refine k_getP (f := 846) (r := gP S 846 v0) B 13 14 rfl (by decide) rfl (by decide) rfl rfl (fun w h => in_of (uw_13 w h)) (in_of qfRX12_3) dX12_isPlaced_109 h1 rfl ?_
  rw [h12]; change K _ _ _ _ _ _ _ _ _ _ _ _ _ _ _ _ _ _ (.ref x5 :: _)
  refine k_getPN (f := 907) (r := gP S 907 x5) B 14 11 rfl (by decide) rfl (by decide) rfl rfl (fun w h => in_of (uw_14 w h)) "LastMileModel" (nzF_11 B.2.2.2.1.2.2.2.1) dX12_isPlaced_112 h13 rfl ?_
  rw [h14]; change K _ _ _ _ _ _ _ _ _ _ _ _ _ _ _ _ _ _ (.ref x6 :: _)
  refine k_iload B 4 rfl dX12_isPlaced_115 ?_
  refine k_iald (v := (rI S x6) v4.toNatClampNeg) B dX12_isPlaced_117 h15 h16 rfl ?_
  refine k_aload_n B 0 rfl rfl dX12_isPlaced_118 ?_
  refine k_getP (f := 846) (r := gP S 846 v0) B 13 14 rfl (by decide) rfl (by decide) rfl rfl (fun w h => in_of (uw_13 w h)) (in_of qfRX12_3) dX12_isPlaced_119 h1 rfl ?_
  rw [h17]; change K _ _ _ _ _ _ _ _ _ _ _ _ _ _ _ _ _ _ (.ref x7 :: _)
  refine k_getPN (f := 908) (r := gP S 908 x7) B 14 12 rfl (by decide) rfl (by decide) rfl rfl (fun w h => in_of (uw_14 w h)) "LastMileModel" (nzF_12 B.2.2.2.1.2.2.2.1) dX12_isPlaced_122 h18 rfl ?_
  rw [h19]; change K _ _ _ _ _ _ _ _ _ _ _ _ _ _ _ _ _ _ (.ref x8 :: _)
  refine k_iload B 4 rfl dX12_isPlaced_125 ?_
  refine k_iald (v := (rI S x8) v4.toNatClampNeg) B dX12_isPlaced_127 h20 h21 rfl ?_
  refine callSN_I (st := []) B [.int ((rI S x2) v2.toNatClampNeg), .int ((rI S x4) v2.toNatClampNeg), .int ((rI S x6) v4.toNatClampNeg), .int ((rI S x8) v4.toNatClampNeg)] (hc) ⟨va_cnB 4 B.1.2.2.2.2 (gB qcX13_apart) rfl rfl rfl (nzM_4 B.2.2.2.1.2.2.2.1) (B.1.2.2.2.2 _ (in_of qzRX13)) (by decide +kernel) ⟨Nat.le_of_ble_eq_true rfl, Nat.le_of_ble_eq_true rfl⟩, B.1.2.2.2.2 _ (in_of qsX13_apart), trivial⟩ rfl (Nat.le_of_ble_eq_true rfl) rfl dX12_isPlaced_128 ⟨Nat.le_of_ble_eq_true rfl, Nat.le_of_ble_eq_true rfl⟩ (fun r S' hp => ?_)
  exact kk r S' hp
theorem bX12_isPlaced_131 (B : Bd p s m args meth c cX12_isPlaced 6 (wsOf yX12_isPlaced cX12_isPlaced 6 (some .boolean)) RX12 w (some .boolean) "isPlaced") {v0 : Nat} {v1 : Int32} {v2 : Int32} {v3 : Int32} {v4 : Int32} {v5 : Int32} {t0 : Int32} {Q : State → Prop}  (kt : t0 ≤ 15 → K p l e rX12_isPlaced s m args below meth c 6 w 0 0 Q S 139 [(0, .ref v0), (1, .int v1), (4, .int v4), (5, .int v5)] []) (kf : ¬ t0 ≤ 15 → K p l e rX12_isPlaced s m args below meth c 6 w 0 0 Q S 136 [(0, .ref v0), (1, .int v1), (2, .int v2), (3, .int v3)] []) : K p l e rX12_isPlaced s m args below meth c 6 w 0 0 Q S 131 [(0, .ref v0), (1, .int v1), (2, .int v2), (3, .int v3), (4, .int v4), (5, .int v5)] [.int t0] := by
  refine k_bipush (v := 15) B (by decide) dX12_isPlaced_131 ?_
  refine k_icmp_le (tgt := 139) B dX12_isPlaced_133 (by decide) (fun c => ?_) (fun c => ?_)
  · refine k_sub [0, 1, 4, 5] rfl ?_
    exact kt c
  · refine k_sub [0, 1, 2, 3] rfl ?_
    exact kf c
theorem bX12_isPlaced_136 (B : Bd p s m args meth c cX12_isPlaced 6 (wsOf yX12_isPlaced cX12_isPlaced 6 (some .boolean)) RX12 w (some .boolean) "isPlaced") {v0 : Nat} {v1 : Int32} {v2 : Int32} {v3 : Int32} {Q : State → Prop}  (kk : K p l e rX12_isPlaced s m args below meth c 6 w 0 0 Q S 333 [(0, .ref v0), (1, .int v1), (2, .int v2), (3, .int v3)] []) : K p l e rX12_isPlaced s m args below meth c 6 w 0 0 Q S 136 [(0, .ref v0), (1, .int v1), (2, .int v2), (3, .int v3)] [] := by
  refine k_goto (tgt := 333) B dX12_isPlaced_136 (by decide) ?_
  exact kk
theorem bX12_isPlaced_139 (B : Bd p s m args meth c cX12_isPlaced 6 (wsOf yX12_isPlaced cX12_isPlaced 6 (some .boolean)) RX12 w (some .boolean) "isPlaced") {v0 : Nat} {v1 : Int32} {v4 : Int32} {v5 : Int32} {x1 : Nat} {x2 : Nat} {x3 : Nat} {x4 : Nat} {post : St → Prop} {Q : State → Prop} (h1 : kd S v0 = 14) (h2 : gP S 846 v0 = some x1) (h3 : kd S x1 = 15) (h4 : gP S 907 x1 = some x2) (h5 : kd S x2 = 21) (h6 : vp_in v4 (ln S x2)) (h7 : gP S 846 v0 = some x3) (h8 : kd S x3 = 15) (h9 : gP S 908 x3 = some x4) (h10 : kd S x4 = 21) (h11 : vp_in v4 (ln S x4)) (hc : ConV l yX12_goTo (wsOf yX12_goTo cX12_goTo 3 none) rX12_goTo w S [.ref v0, .int ((rI S x2) v4.toNatClampNeg), .int ((rI S x4) v4.toNatClampNeg)] post) (kk : ∀ (S' : St), post S' → K p l e rX12_isPlaced s m args below meth c 6 w 0 0 Q S' 163 [(0, .ref v0), (1, .int v1), (4, .int v4), (5, .int v5)] []) : K p l e rX12_isPlaced s m args below meth c 6 w 0 0 Q S 139 [(0, .ref v0), (1, .int v1), (4, .int v4), (5, .int v5)] [] := by
  refine k_aload_n B 0 rfl rfl dX12_isPlaced_139 ?_
  refine k_aload_n B 0 rfl rfl dX12_isPlaced_140 ?_
  refine k_getP (f := 846) (r := gP S 846 v0) B 13 14 rfl (by decide) rfl (by decide) rfl rfl (fun w h => in_of (uw_13 w h)) (in_of qfRX12_3) dX12_isPlaced_141 h1 rfl ?_
  rw [h2]; change K _ _ _ _ _ _ _ _ _ _ _ _ _ _ _ _ _ _ (.ref x1 :: _)
  refine k_getPN (f := 907) (r := gP S 907 x1) B 14 11 rfl (by decide) rfl (by decide) rfl rfl (fun w h => in_of (uw_14 w h)) "LastMileModel" (nzF_11 B.2.2.2.1.2.2.2.1) dX12_isPlaced_144 h3 rfl ?_
  rw [h4]; change K _ _ _ _ _ _ _ _ _ _ _ _ _ _ _ _ _ _ (.ref x2 :: _)
  refine k_iload B 2 rfl dX12_isPlaced_147 ?_
  refine k_iald (v := (rI S x2) v4.toNatClampNeg) B dX12_isPlaced_149 h5 h6 rfl ?_
  refine k_aload_n B 0 rfl rfl dX12_isPlaced_150 ?_
  refine k_getP (f := 846) (r := gP S 846 v0) B 13 14 rfl (by decide) rfl (by decide) rfl rfl (fun w h => in_of (uw_13 w h)) (in_of qfRX12_3) dX12_isPlaced_151 h1 rfl ?_
  rw [h7]; change K _ _ _ _ _ _ _ _ _ _ _ _ _ _ _ _ _ _ (.ref x3 :: _)
  refine k_getPN (f := 908) (r := gP S 908 x3) B 14 12 rfl (by decide) rfl (by decide) rfl rfl (fun w h => in_of (uw_14 w h)) "LastMileModel" (nzF_12 B.2.2.2.1.2.2.2.1) dX12_isPlaced_154 h8 rfl ?_
  rw [h9]; change K _ _ _ _ _ _ _ _ _ _ _ _ _ _ _ _ _ _ (.ref x4 :: _)
  refine k_iload B 2 rfl dX12_isPlaced_157 ?_
  refine k_iald (v := (rI S x4) v4.toNatClampNeg) B dX12_isPlaced_159 h10 h11 rfl ?_
  refine callV_V (st := []) B [.int ((rI S x2) v4.toNatClampNeg), .int ((rI S x4) v4.toNatClampNeg)] (hc) (cwV 2 B.1.2.2.2.2 (gV qlRX12_80 qiX12_goTo qeX12_goTo qzRX12 qcX12_goTo) rfl rfl rfl (by decide +kernel) ⟨Nat.le_of_ble_eq_true rfl, Nat.le_of_ble_eq_true rfl⟩) rfl rfl (by decide) h1 (Nat.le_of_ble_eq_true rfl) rfl dX12_isPlaced_160 ⟨Nat.le_of_ble_eq_true rfl, Nat.le_of_ble_eq_true rfl⟩ (fun S' hp => ?_)
  exact kk S' hp
theorem bX12_isPlaced_163 (B : Bd p s m args meth c cX12_isPlaced 6 (wsOf yX12_isPlaced cX12_isPlaced 6 (some .boolean)) RX12 w (some .boolean) "isPlaced") {v0 : Nat} {v1 : Int32} {v4 : Int32} {v5 : Int32} {x1 : Nat} {Q : State → Prop} (h1 : kd S v0 = 14) (h2 : gP S 834 v0 = some x1) (h3 : kd S x1 = 21) (h4 : vp_in v1 (ln S x1)) (kk : K p l e rX12_isPlaced s m args below meth c 6 w 0 0 Q (sRI (sI S 842 v0 ((gI S 842 v0) + 2)) x1 (va_up (rI S x1) v1.toNatClampNeg 2)) 180 [(0, .ref v0), (1, .int v1), (4, .int v4), (5, .int v5)] []) : K p l e rX12_isPlaced s m args below meth c 6 w 0 0 Q S 163 [(0, .ref v0), (1, .int v1), (4, .int v4), (5, .int v5)] [] := by
  refine k_aload_n B 0 rfl rfl dX12_isPlaced_163 ?_
  refine k_dup B rfl dX12_isPlaced_164 ?_
  refine k_getI (f := 842) (v := gI S 842 v0) B 13 10 rfl (by decide) rfl (by decide) rfl rfl (fun w h => in_of (uw_13 w h)) (in_of qfRX12_60) dX12_isPlaced_165 h1 rfl ?_
  refine k_iconst (v := 2) B (by decide) dX12_isPlaced_168 ?_
  refine k_iadd B dX12_isPlaced_169 ?_
  refine k_putI (f := 842) B 13 10 rfl (by decide) rfl (by decide) rfl rfl (fun w h => in_of (uw_13 w h)) (in_of qfRX12_60) tyX12 tyX12_ok nmX12 rfl (tyX12_ok 10 (by decide)) dX12_isPlaced_170 h1 ?_
  refine k_aload_n B 0 rfl rfl dX12_isPlaced_173 ?_
  refine k_getP (f := 834) (r := gP S 834 v0) B 13 2 rfl (by decide) rfl (by decide) rfl rfl (fun w h => in_of (uw_13 w h)) (in_of qfRX12_15) dX12_isPlaced_174 h1 rfl ?_
  rw [h2]; change K _ _ _ _ _ _ _ _ _ _ _ _ _ _ _ _ _ _ (.ref x1 :: _)
  refine k_iload_n B 1 rfl rfl dX12_isPlaced_177 ?_
  refine k_iconst (v := 2) B (by decide) dX12_isPlaced_178 ?_
  refine k_iast (g := rI S x1) (S' := sRI (sI S 842 v0 ((gI S 842 v0) + 2)) x1 (va_up (rI S x1) v1.toNatClampNeg 2)) B dX12_isPlaced_179 h3 h4 rfl rfl ?_
  exact kk
theorem bX12_isPlaced_180 (B : Bd p s m args meth c cX12_isPlaced 6 (wsOf yX12_isPlaced cX12_isPlaced 6 (some .boolean)) RX12 w (some .boolean) "isPlaced") {v0 : Nat} {v1 : Int32} {v4 : Int32} {v5 : Int32} {x1 : Nat} {Q : State → Prop} (h1 : kd S v0 = 14) (h2 : gP S 836 v0 = some x1) (h3 : kd S x1 = 21) (h4 : vp_in v1 (ln S x1)) (kk : K p l e rX12_isPlaced s m args below meth c 6 w 0 0 Q (sRI S x1 (va_up (rI S x1) v1.toNatClampNeg v4)) 188 [(0, .ref v0), (1, .int v1), (4, .int v4), (5, .int v5)] []) : K p l e rX12_isPlaced s m args below meth c 6 w 0 0 Q S 180 [(0, .ref v0), (1, .int v1), (4, .int v4), (5, .int v5)] [] := by
  refine k_aload_n B 0 rfl rfl dX12_isPlaced_180 ?_
  refine k_getP (f := 836) (r := gP S 836 v0) B 13 4 rfl (by decide) rfl (by decide) rfl rfl (fun w h => in_of (uw_13 w h)) (in_of qfRX12_22) dX12_isPlaced_181 h1 rfl ?_
  rw [h2]; change K _ _ _ _ _ _ _ _ _ _ _ _ _ _ _ _ _ _ (.ref x1 :: _)
  refine k_iload_n B 1 rfl rfl dX12_isPlaced_184 ?_
  refine k_iload B 2 rfl dX12_isPlaced_185 ?_
  refine k_iast (g := rI S x1) (S' := sRI S x1 (va_up (rI S x1) v1.toNatClampNeg v4)) B dX12_isPlaced_187 h3 h4 rfl rfl ?_
  exact kk
theorem bX12_isPlaced_188 (B : Bd p s m args meth c cX12_isPlaced 6 (wsOf yX12_isPlaced cX12_isPlaced 6 (some .boolean)) RX12 w (some .boolean) "isPlaced") {v0 : Nat} {v1 : Int32} {v4 : Int32} {v5 : Int32} {x1 : Nat} {Q : State → Prop} (h1 : kd S v0 = 14) (h2 : gP S 837 v0 = some x1) (h3 : kd S x1 = 21) (h4 : vp_in v1 (ln S x1)) (kk : K p l e rX12_isPlaced s m args below meth c 6 w 0 0 Q (sRI S x1 (va_up (rI S x1) v1.toNatClampNeg v5)) 196 [(0, .ref v0), (1, .int v1), (4, .int v4), (5, .int v5)] []) : K p l e rX12_isPlaced s m args below meth c 6 w 0 0 Q S 188 [(0, .ref v0), (1, .int v1), (4, .int v4), (5, .int v5)] [] := by
  refine k_aload_n B 0 rfl rfl dX12_isPlaced_188 ?_
  refine k_getP (f := 837) (r := gP S 837 v0) B 13 5 rfl (by decide) rfl (by decide) rfl rfl (fun w h => in_of (uw_13 w h)) (in_of qfRX12_25) dX12_isPlaced_189 h1 rfl ?_
  rw [h2]; change K _ _ _ _ _ _ _ _ _ _ _ _ _ _ _ _ _ _ (.ref x1 :: _)
  refine k_iload_n B 1 rfl rfl dX12_isPlaced_192 ?_
  refine k_iload B 3 rfl dX12_isPlaced_193 ?_
  refine k_iast (g := rI S x1) (S' := sRI S x1 (va_up (rI S x1) v1.toNatClampNeg v5)) B dX12_isPlaced_195 h3 h4 rfl rfl ?_
  exact kk
theorem bX12_isPlaced_196 (B : Bd p s m args meth c cX12_isPlaced 6 (wsOf yX12_isPlaced cX12_isPlaced 6 (some .boolean)) RX12 w (some .boolean) "isPlaced") {v0 : Nat} {v1 : Int32} {v4 : Int32} {v5 : Int32} {x1 : Nat} {Q : State → Prop} (h1 : kd S v0 = 14) (h2 : gP S 838 v0 = some x1) (h3 : kd S x1 = 21) (h4 : vp_in v1 (ln S x1)) (kk : K p l e rX12_isPlaced s m args below meth c 6 w 0 0 Q (sRI S x1 (va_up (rI S x1) v1.toNatClampNeg 0)) 203 [(0, .ref v0), (4, .int v4), (5, .int v5)] []) : K p l e rX12_isPlaced s m args below meth c 6 w 0 0 Q S 196 [(0, .ref v0), (1, .int v1), (4, .int v4), (5, .int v5)] [] := by
  refine k_aload_n B 0 rfl rfl dX12_isPlaced_196 ?_
  refine k_getP (f := 838) (r := gP S 838 v0) B 13 6 rfl (by decide) rfl (by decide) rfl rfl (fun w h => in_of (uw_13 w h)) (in_of qfRX12_28) dX12_isPlaced_197 h1 rfl ?_
  rw [h2]; change K _ _ _ _ _ _ _ _ _ _ _ _ _ _ _ _ _ _ (.ref x1 :: _)
  refine k_iload_n B 1 rfl rfl dX12_isPlaced_200 ?_
  refine k_iconst (v := 0) B (by decide) dX12_isPlaced_201 ?_
  refine k_iast (g := rI S x1) (S' := sRI S x1 (va_up (rI S x1) v1.toNatClampNeg 0)) B dX12_isPlaced_202 h3 h4 rfl rfl ?_
  refine k_sub [0, 2, 3] rfl ?_
  exact kk
theorem bX12_isPlaced_203 (B : Bd p s m args meth c cX12_isPlaced 6 (wsOf yX12_isPlaced cX12_isPlaced 6 (some .boolean)) RX12 w (some .boolean) "isPlaced") {v0 : Nat} {v4 : Int32} {v5 : Int32} {x1 : Nat} {Q : State → Prop} (h1 : kd S v0 = 14) (h2 : gP S 839 v0 = some x1) (h3 : kd S x1 = 21) (h4 : vp_in ((3 * v4) + v5) (ln S x1)) (kk : K p l e rX12_isPlaced s m args below meth c 6 w 0 0 Q (sRI S x1 (va_up (rI S x1) ((3 * v4) + v5).toNatClampNeg (((rI S x1) ((3 * v4) + v5).toNatClampNeg) - 1))) 219 [] []) : K p l e rX12_isPlaced s m args below meth c 6 w 0 0 Q S 203 [(0, .ref v0), (4, .int v4), (5, .int v5)] [] := by
  refine k_aload_n B 0 rfl rfl dX12_isPlaced_203 ?_
  refine k_getP (f := 839) (r := gP S 839 v0) B 13 7 rfl (by decide) rfl (by decide) rfl rfl (fun w h => in_of (uw_13 w h)) (in_of qfRX12_31) dX12_isPlaced_204 h1 rfl ?_
  rw [h2]; change K _ _ _ _ _ _ _ _ _ _ _ _ _ _ _ _ _ _ (.ref x1 :: _)
  refine k_iconst (v := 3) B (by decide) dX12_isPlaced_207 ?_
  refine k_iload B 1 rfl dX12_isPlaced_208 ?_
  refine k_imul B dX12_isPlaced_210 ?_
  refine k_iload B 2 rfl dX12_isPlaced_211 ?_
  refine k_iadd B dX12_isPlaced_213 ?_
  refine k_dup2 B rfl rfl dX12_isPlaced_214 ?_
  refine k_iald (v := (rI S x1) ((3 * v4) + v5).toNatClampNeg) B dX12_isPlaced_215 h3 h4 rfl ?_
  refine k_iconst (v := 1) B (by decide) dX12_isPlaced_216 ?_
  refine k_isub B dX12_isPlaced_217 ?_
  refine k_iast (g := rI S x1) (S' := sRI S x1 (va_up (rI S x1) ((3 * v4) + v5).toNatClampNeg (((rI S x1) ((3 * v4) + v5).toNatClampNeg) - 1))) B dX12_isPlaced_218 h3 h4 rfl rfl ?_
  refine k_sub [] rfl ?_
  exact kk
theorem bX12_isPlaced_219 (B : Bd p s m args meth c cX12_isPlaced 6 (wsOf yX12_isPlaced cX12_isPlaced 6 (some .boolean)) RX12 w (some .boolean) "isPlaced") {post : Int32 → St → Prop}  (hq : post 1 S) : K p l e rX12_isPlaced s m args below meth c 6 w 0 0 (MQ below (va_Qi post (fun S' t => Hd w S' t.heap) (wA w)) args s 0 0 (wA w)) S 219 [] [] := by
  refine k_iconst (v := 1) B (by decide) dX12_isPlaced_219 ?_
  exact ret_Z B rfl dX12_isPlaced_220 (by decide) (hq)
theorem bX12_isPlaced_221 (B : Bd p s m args meth c cX12_isPlaced 6 (wsOf yX12_isPlaced cX12_isPlaced 6 (some .boolean)) RX12 w (some .boolean) "isPlaced") {v0 : Nat} {v1 : Int32} {v2 : Int32} {v3 : Int32} {v4 : Int32} {x1 : Nat} {x2 : Nat} {x3 : Nat} {x4 : Nat} {x5 : Nat} {x6 : Nat} {x7 : Nat} {x8 : Nat} {post : Int32 → St → Prop} {Q : State → Prop} (h1 : kd S v0 = 14) (h2 : gP S 846 v0 = some x1) (h3 : kd S x1 = 15) (h4 : gP S 901 x1 = some x2) (h5 : kd S x2 = 21) (h6 : vp_in v2 (ln S x2)) (h7 : gP S 846 v0 = some x3) (h8 : kd S x3 = 15) (h9 : gP S 902 x3 = some x4) (h10 : kd S x4 = 21) (h11 : vp_in v2 (ln S x4)) (h12 : gP S 846 v0 = some x5) (h13 : kd S x5 = 15) (h14 : gP S 901 x5 = some x6) (h15 : kd S x6 = 21) (h16 : vp_in v4 (ln S x6)) (h17 : gP S 846 v0 = some x7) (h18 : kd S x7 = 15) (h19 : gP S 902 x7 = some x8) (h20 : kd S x8 = 21) (h21 : vp_in v4 (ln S x8)) (hc : ConI l yX13_apart (wsOf yX13_apart cX13_apart 4 (some .int)) rX13_apart w S [.int ((rI S x2) v2.toNatClampNeg), .int ((rI S x4) v2.toNatClampNeg), .int ((rI S x6) v4.toNatClampNeg), .int ((rI S x8) v4.toNatClampNeg)] post) (kk : ∀ (r : Int32) (S' : St), post r S' → K p l e rX12_isPlaced s m args below meth c 6 w 0 0 Q S' 262 [(0, .ref v0), (1, .int v1), (2, .int v2), (3, .int v3), (4, .int v4)] [.int r]) : K p l e rX12_isPlaced s m args below meth c 6 w 0 0 Q S 221 [(0, .ref v0), (1, .int v1), (2, .int v2), (3, .int v3), (4, .int v4)] [] := by
  refine k_aload_n B 0 rfl rfl dX12_isPlaced_221 ?_
  refine k_getP (f := 846) (r := gP S 846 v0) B 13 14 rfl (by decide) rfl (by decide) rfl rfl (fun w h => in_of (uw_13 w h)) (in_of qfRX12_3) dX12_isPlaced_222 h1 rfl ?_
  rw [h2]; change K _ _ _ _ _ _ _ _ _ _ _ _ _ _ _ _ _ _ (.ref x1 :: _)
  refine k_getPN (f := 901) (r := gP S 901 x1) B 14 5 rfl (by decide) rfl (by decide) rfl rfl (fun w h => in_of (uw_14 w h)) "LastMileModel" (nzF_9 B.2.2.2.1.2.2.2.1) dX12_isPlaced_225 h3 rfl ?_
  rw [h4]; change K _ _ _ _ _ _ _ _ _ _ _ _ _ _ _ _ _ _ (.ref x2 :: _)
  refine k_iload_n B 2 rfl rfl dX12_isPlaced_228 ?_
  refine k_iald (v := (rI S x2) v2.toNatClampNeg) B dX12_isPlaced_229 h5 h6 rfl ?_
  refine k_aload_n B 0 rfl rfl dX12_isPlaced_230 ?_
  refine k_getP (f := 846) (r := gP S 846 v0) B 13 14 rfl (by decide) rfl (by decide) rfl rfl (fun w h => in_of (uw_13 w h)) (in_of qfRX12_3) dX12_isPlaced_231 h1 rfl ?_
  rw [h7]; change K _ _ _ _ _ _ _ _ _ _ _ _ _ _ _ _ _ _ (.ref x3 :: _)
  refine k_getPN (f := 902) (r := gP S 902 x3) B 14 6 rfl (by decide) rfl (by decide) rfl rfl (fun w h => in_of (uw_14 w h)) "LastMileModel" (nzF_10 B.2.2.2.1.2.2.2.1) dX12_isPlaced_234 h8 rfl ?_
  rw [h9]; change K _ _ _ _ _ _ _ _ _ _ _ _ _ _ _ _ _ _ (.ref x4 :: _)
  refine k_iload_n B 2 rfl rfl dX12_isPlaced_237 ?_
  refine k_iald (v := (rI S x4) v2.toNatClampNeg) B dX12_isPlaced_238 h10 h11 rfl ?_
  refine k_aload_n B 0 rfl rfl dX12_isPlaced_239 ?_
  refine k_getP (f := 846) (r := gP S 846 v0) B 13 14 rfl (by decide) rfl (by decide) rfl rfl (fun w h => in_of (uw_13 w h)) (in_of qfRX12_3) dX12_isPlaced_240 h1 rfl ?_
  rw [h12]; change K _ _ _ _ _ _ _ _ _ _ _ _ _ _ _ _ _ _ (.ref x5 :: _)
  refine k_getPN (f := 901) (r := gP S 901 x5) B 14 5 rfl (by decide) rfl (by decide) rfl rfl (fun w h => in_of (uw_14 w h)) "LastMileModel" (nzF_9 B.2.2.2.1.2.2.2.1) dX12_isPlaced_243 h13 rfl ?_
  rw [h14]; change K _ _ _ _ _ _ _ _ _ _ _ _ _ _ _ _ _ _ (.ref x6 :: _)
  refine k_iload B 4 rfl dX12_isPlaced_246 ?_
  refine k_iald (v := (rI S x6) v4.toNatClampNeg) B dX12_isPlaced_248 h15 h16 rfl ?_
  refine k_aload_n B 0 rfl rfl dX12_isPlaced_249 ?_
  refine k_getP (f := 846) (r := gP S 846 v0) B 13 14 rfl (by decide) rfl (by decide) rfl rfl (fun w h => in_of (uw_13 w h)) (in_of qfRX12_3) dX12_isPlaced_250 h1 rfl ?_
  rw [h17]; change K _ _ _ _ _ _ _ _ _ _ _ _ _ _ _ _ _ _ (.ref x7 :: _)
  refine k_getPN (f := 902) (r := gP S 902 x7) B 14 6 rfl (by decide) rfl (by decide) rfl rfl (fun w h => in_of (uw_14 w h)) "LastMileModel" (nzF_10 B.2.2.2.1.2.2.2.1) dX12_isPlaced_253 h18 rfl ?_
  rw [h19]; change K _ _ _ _ _ _ _ _ _ _ _ _ _ _ _ _ _ _ (.ref x8 :: _)
  refine k_iload B 4 rfl dX12_isPlaced_256 ?_
  refine k_iald (v := (rI S x8) v4.toNatClampNeg) B dX12_isPlaced_258 h20 h21 rfl ?_
  refine callSN_I (st := []) B [.int ((rI S x2) v2.toNatClampNeg), .int ((rI S x4) v2.toNatClampNeg), .int ((rI S x6) v4.toNatClampNeg), .int ((rI S x8) v4.toNatClampNeg)] (hc) ⟨va_cnB 4 B.1.2.2.2.2 (gB qcX13_apart) rfl rfl rfl (nzM_4 B.2.2.2.1.2.2.2.1) (B.1.2.2.2.2 _ (in_of qzRX13)) (by decide +kernel) ⟨Nat.le_of_ble_eq_true rfl, Nat.le_of_ble_eq_true rfl⟩, B.1.2.2.2.2 _ (in_of qsX13_apart), trivial⟩ rfl (Nat.le_of_ble_eq_true rfl) rfl dX12_isPlaced_259 ⟨Nat.le_of_ble_eq_true rfl, Nat.le_of_ble_eq_true rfl⟩ (fun r S' hp => ?_)
  exact kk r S' hp
theorem bX12_isPlaced_262 (B : Bd p s m args meth c cX12_isPlaced 6 (wsOf yX12_isPlaced cX12_isPlaced 6 (some .boolean)) RX12 w (some .boolean) "isPlaced") {v0 : Nat} {v1 : Int32} {v2 : Int32} {v3 : Int32} {v4 : Int32} {t0 : Int32} {Q : State → Prop}  (kt : t0 ≤ 8 → K p l e rX12_isPlaced s m args below meth c 6 w 0 0 Q S 270 [(0, .ref v0), (1, .int v1), (2, .int v2), (3, .int v3), (4, .int v4)] []) (kf : ¬ t0 ≤ 8 → K p l e rX12_isPlaced s m args below meth c 6 w 0 0 Q S 267 [(0, .ref v0), (1, .int v1), (2, .int v2), (3, .int v3)] []) : K p l e rX12_isPlaced s m args below meth c 6 w 0 0 Q S 262 [(0, .ref v0), (1, .int v1), (2, .int v2), (3, .int v3), (4, .int v4)] [.int t0] := by
  refine k_bipush (v := 8) B (by decide) dX12_isPlaced_262 ?_
  refine k_icmp_le (tgt := 270) B dX12_isPlaced_264 (by decide) (fun c => ?_) (fun c => ?_)
  · exact kt c
  · refine k_sub [0, 1, 2, 3] rfl ?_
    exact kf c
theorem bX12_isPlaced_267 (B : Bd p s m args meth c cX12_isPlaced 6 (wsOf yX12_isPlaced cX12_isPlaced 6 (some .boolean)) RX12 w (some .boolean) "isPlaced") {v0 : Nat} {v1 : Int32} {v2 : Int32} {v3 : Int32} {Q : State → Prop}  (kk : K p l e rX12_isPlaced s m args below meth c 6 w 0 0 Q S 333 [(0, .ref v0), (1, .int v1), (2, .int v2), (3, .int v3)] []) : K p l e rX12_isPlaced s m args below meth c 6 w 0 0 Q S 267 [(0, .ref v0), (1, .int v1), (2, .int v2), (3, .int v3)] [] := by
  refine k_goto (tgt := 333) B dX12_isPlaced_267 (by decide) ?_
  exact kk
theorem bX12_isPlaced_270 (B : Bd p s m args meth c cX12_isPlaced 6 (wsOf yX12_isPlaced cX12_isPlaced 6 (some .boolean)) RX12 w (some .boolean) "isPlaced") {v0 : Nat} {v1 : Int32} {v2 : Int32} {v3 : Int32} {v4 : Int32} {x1 : Nat} {x2 : Nat} {x3 : Nat} {x4 : Nat} {post : St → Prop} {Q : State → Prop} (h1 : kd S v0 = 14) (h2 : gP S 846 v0 = some x1) (h3 : kd S x1 = 15) (h4 : gP S 901 x1 = some x2) (h5 : kd S x2 = 21) (h6 : vp_in v4 (ln S x2)) (h7 : gP S 846 v0 = some x3) (h8 : kd S x3 = 15) (h9 : gP S 902 x3 = some x4) (h10 : kd S x4 = 21) (h11 : vp_in v4 (ln S x4)) (hc : ConV l yX12_goTo (wsOf yX12_goTo cX12_goTo 3 none) rX12_goTo w S [.ref v0, .int ((rI S x2) v4.toNatClampNeg), .int ((rI S x4) v4.toNatClampNeg)] post) (kk : ∀ (S' : St), post S' → K p l e rX12_isPlaced s m args below meth c 6 w 0 0 Q S' 294 [(0, .ref v0), (1, .int v1), (2, .int v2), (3, .int v3), (4, .int v4)] []) : K p l e rX12_isPlaced s m args below meth c 6 w 0 0 Q S 270 [(0, .ref v0), (1, .int v1), (2, .int v2), (3, .int v3), (4, .int v4)] [] := by
  refine k_aload_n B 0 rfl rfl dX12_isPlaced_270 ?_
  refine k_aload_n B 0 rfl rfl dX12_isPlaced_271 ?_
  refine k_getP (f := 846) (r := gP S 846 v0) B 13 14 rfl (by decide) rfl (by decide) rfl rfl (fun w h => in_of (uw_13 w h)) (in_of qfRX12_3) dX12_isPlaced_272 h1 rfl ?_
  rw [h2]; change K _ _ _ _ _ _ _ _ _ _ _ _ _ _ _ _ _ _ (.ref x1 :: _)
  refine k_getPN (f := 901) (r := gP S 901 x1) B 14 5 rfl (by decide) rfl (by decide) rfl rfl (fun w h => in_of (uw_14 w h)) "LastMileModel" (nzF_9 B.2.2.2.1.2.2.2.1) dX12_isPlaced_275 h3 rfl ?_
  rw [h4]; change K _ _ _ _ _ _ _ _ _ _ _ _ _ _ _ _ _ _ (.ref x2 :: _)
  refine k_iload B 4 rfl dX12_isPlaced_278 ?_
  refine k_iald (v := (rI S x2) v4.toNatClampNeg) B dX12_isPlaced_280 h5 h6 rfl ?_
  refine k_aload_n B 0 rfl rfl dX12_isPlaced_281 ?_
  refine k_getP (f := 846) (r := gP S 846 v0) B 13 14 rfl (by decide) rfl (by decide) rfl rfl (fun w h => in_of (uw_13 w h)) (in_of qfRX12_3) dX12_isPlaced_282 h1 rfl ?_
  rw [h7]; change K _ _ _ _ _ _ _ _ _ _ _ _ _ _ _ _ _ _ (.ref x3 :: _)
  refine k_getPN (f := 902) (r := gP S 902 x3) B 14 6 rfl (by decide) rfl (by decide) rfl rfl (fun w h => in_of (uw_14 w h)) "LastMileModel" (nzF_10 B.2.2.2.1.2.2.2.1) dX12_isPlaced_285 h8 rfl ?_
  rw [h9]; change K _ _ _ _ _ _ _ _ _ _ _ _ _ _ _ _ _ _ (.ref x4 :: _)
  refine k_iload B 4 rfl dX12_isPlaced_288 ?_
  refine k_iald (v := (rI S x4) v4.toNatClampNeg) B dX12_isPlaced_290 h10 h11 rfl ?_
  refine callV_V (st := []) B [.int ((rI S x2) v4.toNatClampNeg), .int ((rI S x4) v4.toNatClampNeg)] (hc) (cwV 2 B.1.2.2.2.2 (gV qlRX12_80 qiX12_goTo qeX12_goTo qzRX12 qcX12_goTo) rfl rfl rfl (by decide +kernel) ⟨Nat.le_of_ble_eq_true rfl, Nat.le_of_ble_eq_true rfl⟩) rfl rfl (by decide) h1 (Nat.le_of_ble_eq_true rfl) rfl dX12_isPlaced_291 ⟨Nat.le_of_ble_eq_true rfl, Nat.le_of_ble_eq_true rfl⟩ (fun S' hp => ?_)
  exact kk S' hp
theorem bX12_isPlaced_294 (B : Bd p s m args meth c cX12_isPlaced 6 (wsOf yX12_isPlaced cX12_isPlaced 6 (some .boolean)) RX12 w (some .boolean) "isPlaced") {v0 : Nat} {v1 : Int32} {v2 : Int32} {v3 : Int32} {v4 : Int32} {post : Int32 → St → Prop} {Q : State → Prop} (hc : ConI l yX12_isHome (wsOf yX12_isHome cX12_isHome 2 (some .boolean)) rX12_isHome w S [.ref v0, .int v4] post) (h1 : kd S v0 = 14) (kk : ∀ (r : Int32) (S' : St), post r S' → K p l e rX12_isPlaced s m args below meth c 6 w 0 0 Q S' 300 [(0, .ref v0), (1, .int v1), (2, .int v2), (3, .int v3), (4, .int v4)] [.int r]) : K p l e rX12_isPlaced s m args below meth c 6 w 0 0 Q S 294 [(0, .ref v0), (1, .int v1), (2, .int v2), (3, .int v3), (4, .int v4)] [] := by
  refine k_aload_n B 0 rfl rfl dX12_isPlaced_294 ?_
  refine k_iload B 4 rfl dX12_isPlaced_295 ?_
  refine callV_I (st := []) B [.int v4] (hc) (cwV 1 B.1.2.2.2.2 (gV qlRX12_114 qiX12_isHome qeX12_isHome qzRX12 qcX12_isHome) rfl rfl rfl (by decide +kernel) ⟨Nat.le_of_ble_eq_true rfl, Nat.le_of_ble_eq_true rfl⟩) rfl rfl (by decide) h1 (Nat.le_of_ble_eq_true rfl) rfl dX12_isPlaced_297 ⟨Nat.le_of_ble_eq_true rfl, Nat.le_of_ble_eq_true rfl⟩ (fun r S' hp => ?_)
  exact kk r S' hp
theorem bX12_isPlaced_300 (B : Bd p s m args meth c cX12_isPlaced 6 (wsOf yX12_isPlaced cX12_isPlaced 6 (some .boolean)) RX12 w (some .boolean) "isPlaced") {v0 : Nat} {v1 : Int32} {v2 : Int32} {v3 : Int32} {v4 : Int32} {t0 : Int32} {Q : State → Prop}  (kt : ¬ t0 = 0 → K p l e rX12_isPlaced s m args below meth c 6 w 0 0 Q S 306 [(0, .ref v0), (1, .int v1), (4, .int v4)] []) (kf : t0 = 0 → K p l e rX12_isPlaced s m args below meth c 6 w 0 0 Q S 303 [(0, .ref v0), (1, .int v1), (2, .int v2), (3, .int v3)] []) : K p l e rX12_isPlaced s m args below meth c 6 w 0 0 Q S 300 [(0, .ref v0), (1, .int v1), (2, .int v2), (3, .int v3), (4, .int v4)] [.int t0] := by
  refine k_if_ne (tgt := 306) B dX12_isPlaced_300 (by decide) (fun c => ?_) (fun c => ?_)
  · refine k_sub [0, 1, 4] rfl ?_
    exact kt c
  · refine k_sub [0, 1, 2, 3] rfl ?_
    exact kf c
theorem bX12_isPlaced_303 (B : Bd p s m args meth c cX12_isPlaced 6 (wsOf yX12_isPlaced cX12_isPlaced 6 (some .boolean)) RX12 w (some .boolean) "isPlaced") {v0 : Nat} {v1 : Int32} {v2 : Int32} {v3 : Int32} {Q : State → Prop}  (kk : K p l e rX12_isPlaced s m args below meth c 6 w 0 0 Q S 333 [(0, .ref v0), (1, .int v1), (2, .int v2), (3, .int v3)] []) : K p l e rX12_isPlaced s m args below meth c 6 w 0 0 Q S 303 [(0, .ref v0), (1, .int v1), (2, .int v2), (3, .int v3)] [] := by
  refine k_goto (tgt := 333) B dX12_isPlaced_303 (by decide) ?_
  exact kk
theorem bX12_isPlaced_306 (B : Bd p s m args meth c cX12_isPlaced 6 (wsOf yX12_isPlaced cX12_isPlaced 6 (some .boolean)) RX12 w (some .boolean) "isPlaced") {v0 : Nat} {v1 : Int32} {v4 : Int32} {x1 : Nat} {Q : State → Prop} (h1 : kd S v0 = 14) (h2 : gP S 834 v0 = some x1) (h3 : kd S x1 = 21) (h4 : vp_in v1 (ln S x1)) (kk : K p l e rX12_isPlaced s m args below meth c 6 w 0 0 Q (sRI (sI S 842 v0 ((gI S 842 v0) + 2)) x1 (va_up (rI S x1) v1.toNatClampNeg 3)) 323 [(0, .ref v0), (1, .int v1), (4, .int v4)] []) : K p l e rX12_isPlaced s m args below meth c 6 w 0 0 Q S 306 [(0, .ref v0), (1, .int v1), (4, .int v4)] [] := by
  refine k_aload_n B 0 rfl rfl dX12_isPlaced_306 ?_
  refine k_dup B rfl dX12_isPlaced_307 ?_
  refine k_getI (f := 842) (v := gI S 842 v0) B 13 10 rfl (by decide) rfl (by decide) rfl rfl (fun w h => in_of (uw_13 w h)) (in_of qfRX12_60) dX12_isPlaced_308 h1 rfl ?_
  refine k_iconst (v := 2) B (by decide) dX12_isPlaced_311 ?_
  refine k_iadd B dX12_isPlaced_312 ?_
  refine k_putI (f := 842) B 13 10 rfl (by decide) rfl (by decide) rfl rfl (fun w h => in_of (uw_13 w h)) (in_of qfRX12_60) tyX12 tyX12_ok nmX12 rfl (tyX12_ok 10 (by decide)) dX12_isPlaced_313 h1 ?_
  refine k_aload_n B 0 rfl rfl dX12_isPlaced_316 ?_
  refine k_getP (f := 834) (r := gP S 834 v0) B 13 2 rfl (by decide) rfl (by decide) rfl rfl (fun w h => in_of (uw_13 w h)) (in_of qfRX12_15) dX12_isPlaced_317 h1 rfl ?_
  rw [h2]; change K _ _ _ _ _ _ _ _ _ _ _ _ _ _ _ _ _ _ (.ref x1 :: _)
  refine k_iload_n B 1 rfl rfl dX12_isPlaced_320 ?_
  refine k_iconst (v := 3) B (by decide) dX12_isPlaced_321 ?_
  refine k_iast (g := rI S x1) (S' := sRI (sI S 842 v0 ((gI S 842 v0) + 2)) x1 (va_up (rI S x1) v1.toNatClampNeg 3)) B dX12_isPlaced_322 h3 h4 rfl rfl ?_
  exact kk
theorem bX12_isPlaced_323 (B : Bd p s m args meth c cX12_isPlaced 6 (wsOf yX12_isPlaced cX12_isPlaced 6 (some .boolean)) RX12 w (some .boolean) "isPlaced") {v0 : Nat} {v1 : Int32} {v4 : Int32} {x1 : Nat} {Q : State → Prop} (h1 : kd S v0 = 14) (h2 : gP S 836 v0 = some x1) (h3 : kd S x1 = 21) (h4 : vp_in v1 (ln S x1)) (kk : K p l e rX12_isPlaced s m args below meth c 6 w 0 0 Q (sRI S x1 (va_up (rI S x1) v1.toNatClampNeg v4)) 331 [] []) : K p l e rX12_isPlaced s m args below meth c 6 w 0 0 Q S 323 [(0, .ref v0), (1, .int v1), (4, .int v4)] [] := by
  refine k_aload_n B 0 rfl rfl dX12_isPlaced_323 ?_
  refine k_getP (f := 836) (r := gP S 836 v0) B 13 4 rfl (by decide) rfl (by decide) rfl rfl (fun w h => in_of (uw_13 w h)) (in_of qfRX12_22) dX12_isPlaced_324 h1 rfl ?_
  rw [h2]; change K _ _ _ _ _ _ _ _ _ _ _ _ _ _ _ _ _ _ (.ref x1 :: _)
  refine k_iload_n B 1 rfl rfl dX12_isPlaced_327 ?_
  refine k_iload B 2 rfl dX12_isPlaced_328 ?_
  refine k_iast (g := rI S x1) (S' := sRI S x1 (va_up (rI S x1) v1.toNatClampNeg v4)) B dX12_isPlaced_330 h3 h4 rfl rfl ?_
  refine k_sub [] rfl ?_
  exact kk
theorem bX12_isPlaced_331 (B : Bd p s m args meth c cX12_isPlaced 6 (wsOf yX12_isPlaced cX12_isPlaced 6 (some .boolean)) RX12 w (some .boolean) "isPlaced") {post : Int32 → St → Prop}  (hq : post 1 S) : K p l e rX12_isPlaced s m args below meth c 6 w 0 0 (MQ below (va_Qi post (fun S' t => Hd w S' t.heap) (wA w)) args s 0 0 (wA w)) S 331 [] [] := by
  refine k_iconst (v := 1) B (by decide) dX12_isPlaced_331 ?_
  exact ret_Z B rfl dX12_isPlaced_332 (by decide) (hq)
theorem bX12_isPlaced_333 (B : Bd p s m args meth c cX12_isPlaced 6 (wsOf yX12_isPlaced cX12_isPlaced 6 (some .boolean)) RX12 w (some .boolean) "isPlaced") {v0 : Nat} {v1 : Int32} {v2 : Int32} {v3 : Int32} {Q : State → Prop}  (kk : K p l e rX12_isPlaced s m args below meth c 6 w 0 0 Q S 12 [(0, .ref v0), (1, .int v1), (2, .int v2), (3, .int (v3 + 1))] []) : K p l e rX12_isPlaced s m args below meth c 6 w 0 0 Q S 333 [(0, .ref v0), (1, .int v1), (2, .int v2), (3, .int v3)] [] := by
  refine k_iinc (v := v3 + 1) (lst' := [(3, .int (v3 + 1)), (0, .ref v0), (1, .int v1), (2, .int v2)]) B 3 rfl rfl (by decide) rfl dX12_isPlaced_333 ?_
  refine k_goto (tgt := 12) B dX12_isPlaced_336 (by decide) ?_
  refine k_sub [1, 2, 3, 0] rfl ?_
  exact kk
theorem bX12_isPlaced_339 (B : Bd p s m args meth c cX12_isPlaced 6 (wsOf yX12_isPlaced cX12_isPlaced 6 (some .boolean)) RX12 w (some .boolean) "isPlaced") {post : Int32 → St → Prop}  (hq : post 0 S) : K p l e rX12_isPlaced s m args below meth c 6 w 0 0 (MQ below (va_Qi post (fun S' t => Hd w S' t.heap) (wA w)) args s 0 0 (wA w)) S 339 [] [] := by
  refine k_iconst (v := 0) B (by decide) dX12_isPlaced_339 ?_
  exact ret_Z B rfl dX12_isPlaced_340 (by decide) (hq)
theorem bX12_isDone_0 (B : Bd p s m args meth c cX12_isDone 4 (wsOf yX12_isDone cX12_isDone 4 (some .boolean)) RX12 w (some .boolean) "isDone") {v0 : Nat} {v1 : Int32} {x1 : Nat} {x2 : Nat} {x3 : Nat} {x4 : Nat} {x5 : Nat} {x6 : Nat} {post : St → Prop} {Q : State → Prop} (h1 : kd S v0 = 14) (h2 : gP S 846 v0 = some x1) (h3 : kd S x1 = 15) (h4 : gP S 916 x1 = some x2) (h5 : kd S x2 = 21) (h6 : vp_in v1 (ln S x2)) (h7 : gP S 846 v0 = some x3) (h8 : kd S x3 = 15) (h9 : gP S 901 x3 = some x4) (h10 : kd S x4 = 21) (h11 : vp_in ((rI S x2) v1.toNatClampNeg) (ln S x4)) (h12 : gP S 846 v0 = some x5) (h13 : kd S x5 = 15) (h14 : gP S 902 x5 = some x6) (h15 : kd S x6 = 21) (h16 : vp_in ((rI S x2) v1.toNatClampNeg) (ln S x6)) (hc : ConV l yX12_work (wsOf yX12_work cX12_work 3 none) rX12_work w S [.ref v0, .int ((rI S x4) ((rI S x2) v1.toNatClampNeg).toNatClampNeg), .int ((rI S x6) ((rI S x2) v1.toNatClampNeg).toNatClampNeg)] post) (kk : ∀ (S' : St), post S' → K p l e rX12_isDone s m args below meth c 4 w 0 0 Q S' 32 [(0, .ref v0), (1, .int v1), (2, .int ((rI S x2) v1.toNatClampNeg))] []) : K p l e rX12_isDone s m args below meth c 4 w 0 0 Q S 0 [(0, .ref v0), (1, .int v1)] [] := by
  refine k_aload_n B 0 rfl rfl dX12_isDone_0 ?_
  refine k_getP (f := 846) (r := gP S 846 v0) B 13 14 rfl (by decide) rfl (by decide) rfl rfl (fun w h => in_of (uw_13 w h)) (in_of qfRX12_3) dX12_isDone_1 h1 rfl ?_
  rw [h2]; change K _ _ _ _ _ _ _ _ _ _ _ _ _ _ _ _ _ _ (.ref x1 :: _)
  refine k_getPN (f := 916) (r := gP S 916 x1) B 14 20 rfl (by decide) rfl (by decide) rfl rfl (fun w h => in_of (uw_14 w h)) "LastMileModel" (nzF_22 B.2.2.2.1.2.2.2.1) dX12_isDone_4 h3 rfl ?_
  rw [h4]; change K _ _ _ _ _ _ _ _ _ _ _ _ _ _ _ _ _ _ (.ref x2 :: _)
  refine k_iload_n B 1 rfl rfl dX12_isDone_7 ?_
  refine k_iald (v := (rI S x2) v1.toNatClampNeg) B dX12_isDone_8 h5 h6 rfl ?_
  refine k_istore_n (lst' := [(2, .int ((rI S x2) v1.toNatClampNeg)), (0, .ref v0), (1, .int v1)]) B rfl (by decide) rfl dX12_isDone_9 ?_
  refine k_aload_n B 1 rfl rfl dX12_isDone_10 ?_
  refine k_aload_n B 1 rfl rfl dX12_isDone_11 ?_
  refine k_getP (f := 846) (r := gP S 846 v0) B 13 14 rfl (by decide) rfl (by decide) rfl rfl (fun w h => in_of (uw_13 w h)) (in_of qfRX12_3) dX12_isDone_12 h1 rfl ?_
  rw [h7]; change K _ _ _ _ _ _ _ _ _ _ _ _ _ _ _ _ _ _ (.ref x3 :: _)
  refine k_getPN (f := 901) (r := gP S 901 x3) B 14 5 rfl (by decide) rfl (by decide) rfl rfl (fun w h => in_of (uw_14 w h)) "LastMileModel" (nzF_9 B.2.2.2.1.2.2.2.1) dX12_isDone_15 h8 rfl ?_
  rw [h9]; change K _ _ _ _ _ _ _ _ _ _ _ _ _ _ _ _ _ _ (.ref x4 :: _)
  refine k_iload_n B 0 rfl rfl dX12_isDone_18 ?_
  refine k_iald (v := (rI S x4) ((rI S x2) v1.toNatClampNeg).toNatClampNeg) B dX12_isDone_19 h10 h11 rfl ?_
  refine k_aload_n B 1 rfl rfl dX12_isDone_20 ?_
  refine k_getP (f := 846) (r := gP S 846 v0) B 13 14 rfl (by decide) rfl (by decide) rfl rfl (fun w h => in_of (uw_13 w h)) (in_of qfRX12_3) dX12_isDone_21 h1 rfl ?_
  rw [h12]; change K _ _ _ _ _ _ _ _ _ _ _ _ _ _ _ _ _ _ (.ref x5 :: _)
  refine k_getPN (f := 902) (r := gP S 902 x5) B 14 6 rfl (by decide) rfl (by decide) rfl rfl (fun w h => in_of (uw_14 w h)) "LastMileModel" (nzF_10 B.2.2.2.1.2.2.2.1) dX12_isDone_24 h13 rfl ?_
  rw [h14]; change K _ _ _ _ _ _ _ _ _ _ _ _ _ _ _ _ _ _ (.ref x6 :: _)
  refine k_iload_n B 0 rfl rfl dX12_isDone_27 ?_
  refine k_iald (v := (rI S x6) ((rI S x2) v1.toNatClampNeg).toNatClampNeg) B dX12_isDone_28 h15 h16 rfl ?_
  refine callV_V (st := []) B [.int ((rI S x4) ((rI S x2) v1.toNatClampNeg).toNatClampNeg), .int ((rI S x6) ((rI S x2) v1.toNatClampNeg).toNatClampNeg)] (hc) (cwV 2 B.1.2.2.2.2 (gV qlRX12_118 qiX12_work qeX12_work qzRX12 qcX12_work) rfl rfl rfl (by decide +kernel) ⟨Nat.le_of_ble_eq_true rfl, Nat.le_of_ble_eq_true rfl⟩) rfl rfl (by decide) h1 (Nat.le_of_ble_eq_true rfl) rfl dX12_isDone_29 ⟨Nat.le_of_ble_eq_true rfl, Nat.le_of_ble_eq_true rfl⟩ (fun S' hp => ?_)
  refine k_sub [1, 2, 0] rfl ?_
  exact kk S' hp
theorem bX12_isDone_32 (B : Bd p s m args meth c cX12_isDone 4 (wsOf yX12_isDone cX12_isDone 4 (some .boolean)) RX12 w (some .boolean) "isDone") {v0 : Nat} {v1 : Int32} {v2 : Int32} {x1 : Nat} {x2 : Nat} {post : Int32 → St → Prop} {Q : State → Prop} (h1 : kd S v0 = 14) (h2 : gP S 846 v0 = some x1) (h3 : kd S x1 = 15) (h4 : gP S 917 x1 = some x2) (h5 : kd S x2 = 21) (h6 : vp_in v1 (ln S x2)) (hc : ConI l yX12_isHome (wsOf yX12_isHome cX12_isHome 2 (some .boolean)) rX12_isHome w (sI S 842 v0 (if (gI S 842 v0) < ((rI S x2) v1.toNatClampNeg) then ((rI S x2) v1.toNatClampNeg) else (gI S 842 v0))) [.ref v0, .int v2] post) (kk : ∀ (r : Int32) (S' : St), post r S' → K p l e rX12_isDone s m args below meth c 4 w 0 0 Q S' 57 [(0, .ref v0), (1, .int v1)] [.int r]) : K p l e rX12_isDone s m args below meth c 4 w 0 0 Q S 32 [(0, .ref v0), (1, .int v1), (2, .int v2)] [] := by
  refine k_aload_n B 0 rfl rfl dX12_isDone_32 ?_
  refine k_aload_n B 0 rfl rfl dX12_isDone_33 ?_
  refine k_getI (f := 842) (v := gI S 842 v0) B 13 10 rfl (by decide) rfl (by decide) rfl rfl (fun w h => in_of (uw_13 w h)) (in_of qfRX12_60) dX12_isDone_34 h1 rfl ?_
  refine k_aload_n B 0 rfl rfl dX12_isDone_37 ?_
  refine k_getP (f := 846) (r := gP S 846 v0) B 13 14 rfl (by decide) rfl (by decide) rfl rfl (fun w h => in_of (uw_13 w h)) (in_of qfRX12_3) dX12_isDone_38 h1 rfl ?_
  rw [h2]; change K _ _ _ _ _ _ _ _ _ _ _ _ _ _ _ _ _ _ (.ref x1 :: _)
  refine k_getPN (f := 917) (r := gP S 917 x1) B 14 21 rfl (by decide) rfl (by decide) rfl rfl (fun w h => in_of (uw_14 w h)) "LastMileModel" (nzF_13 B.2.2.2.1.2.2.2.1) dX12_isDone_41 h3 rfl ?_
  rw [h4]; change K _ _ _ _ _ _ _ _ _ _ _ _ _ _ _ _ _ _ (.ref x2 :: _)
  refine k_iload_n B 1 rfl rfl dX12_isDone_44 ?_
  refine k_iald (v := (rI S x2) v1.toNatClampNeg) B dX12_isDone_45 h5 h6 rfl ?_
  refine k_max B (in_of qlRX12_124) (in_of qs_max) (in_of qz_Math) (in_of qc_max) (Nat.le_of_ble_eq_true rfl) (Nat.le_of_ble_eq_true rfl) (Nat.le_of_ble_eq_true rfl) (Nat.le_of_ble_eq_true rfl) dX12_isDone_46 ?_
  refine k_putI (f := 842) B 13 10 rfl (by decide) rfl (by decide) rfl rfl (fun w h => in_of (uw_13 w h)) (in_of qfRX12_60) tyX12 tyX12_ok nmX12 rfl (tyX12_ok 10 (by decide)) dX12_isDone_49 h1 ?_
  refine k_aload_n B 0 rfl rfl dX12_isDone_52 ?_
  refine k_iload_n B 2 rfl rfl dX12_isDone_53 ?_
  refine callV_I (st := []) B [.int v2] (hc) (cwV 1 B.1.2.2.2.2 (gV qlRX12_114 qiX12_isHome qeX12_isHome qzRX12 qcX12_isHome) rfl rfl rfl (by decide +kernel) ⟨Nat.le_of_ble_eq_true rfl, Nat.le_of_ble_eq_true rfl⟩) rfl rfl (by decide) h1 (Nat.le_of_ble_eq_true rfl) rfl dX12_isDone_54 ⟨Nat.le_of_ble_eq_true rfl, Nat.le_of_ble_eq_true rfl⟩ (fun r S' hp => ?_)
  refine k_sub [0, 1] rfl ?_
  exact kk r S' hp
theorem bX12_isDone_57 (B : Bd p s m args meth c cX12_isDone 4 (wsOf yX12_isDone cX12_isDone 4 (some .boolean)) RX12 w (some .boolean) "isDone") {v0 : Nat} {v1 : Int32} {t0 : Int32} {Q : State → Prop} (h1 : kd S v0 = 14) (kt : t0 = 0 → K p l e rX12_isDone s m args below meth c 4 w 0 0 Q (sI S 842 v0 ((gI S 842 v0) + 4)) 81 [(0, .ref v0), (1, .int v1)] []) (kf : ¬ t0 = 0 → K p l e rX12_isDone s m args below meth c 4 w 0 0 Q (sI S 842 v0 ((gI S 842 v0) + 4)) 72 [(0, .ref v0), (1, .int v1)] []) : K p l e rX12_isDone s m args below meth c 4 w 0 0 Q S 57 [(0, .ref v0), (1, .int v1)] [.int t0] := by
  refine k_istore_n (lst' := [(3, .int t0), (0, .ref v0), (1, .int v1)]) B rfl (by decide) rfl dX12_isDone_57 ?_
  refine k_aload_n B 1 rfl rfl dX12_isDone_58 ?_
  refine k_dup B rfl dX12_isDone_59 ?_
  refine k_getI (f := 842) (v := gI S 842 v0) B 13 10 rfl (by decide) rfl (by decide) rfl rfl (fun w h => in_of (uw_13 w h)) (in_of qfRX12_60) dX12_isDone_60 h1 rfl ?_
  refine k_iconst (v := 4) B (by decide) dX12_isDone_63 ?_
  refine k_iadd B dX12_isDone_64 ?_
  refine k_putI (f := 842) B 13 10 rfl (by decide) rfl (by decide) rfl rfl (fun w h => in_of (uw_13 w h)) (in_of qfRX12_60) tyX12 tyX12_ok nmX12 rfl (tyX12_ok 10 (by decide)) dX12_isDone_65 h1 ?_
  refine k_iload_n B 0 rfl rfl dX12_isDone_68 ?_
  refine k_if_eq (tgt := 81) B dX12_isDone_69 (by decide) (fun c => ?_) (fun c => ?_)
  · refine k_sub [1, 2] rfl ?_
    exact kt c
  · refine k_sub [1, 2] rfl ?_
    exact kf c
theorem bX12_isDone_72 (B : Bd p s m args meth c cX12_isDone 4 (wsOf yX12_isDone cX12_isDone 4 (some .boolean)) RX12 w (some .boolean) "isDone") {v0 : Nat} {v1 : Int32} {x1 : Nat} {Q : State → Prop} (h1 : kd S v0 = 14) (h2 : gP S 834 v0 = some x1) (h3 : kd S x1 = 21) (h4 : vp_in v1 (ln S x1)) (kk : K p l e rX12_isDone s m args below meth c 4 w 0 0 Q (sRI S x1 (va_up (rI S x1) v1.toNatClampNeg 1)) 79 [] []) : K p l e rX12_isDone s m args below meth c 4 w 0 0 Q S 72 [(0, .ref v0), (1, .int v1)] [] := by
  refine k_aload_n B 0 rfl rfl dX12_isDone_72 ?_
  refine k_getP (f := 834) (r := gP S 834 v0) B 13 2 rfl (by decide) rfl (by decide) rfl rfl (fun w h => in_of (uw_13 w h)) (in_of qfRX12_15) dX12_isDone_73 h1 rfl ?_
  rw [h2]; change K _ _ _ _ _ _ _ _ _ _ _ _ _ _ _ _ _ _ (.ref x1 :: _)
  refine k_iload_n B 1 rfl rfl dX12_isDone_76 ?_
  refine k_iconst (v := 1) B (by decide) dX12_isDone_77 ?_
  refine k_iast (g := rI S x1) (S' := sRI S x1 (va_up (rI S x1) v1.toNatClampNeg 1)) B dX12_isDone_78 h3 h4 rfl rfl ?_
  refine k_sub [] rfl ?_
  exact kk
theorem bX12_isDone_79 (B : Bd p s m args meth c cX12_isDone 4 (wsOf yX12_isDone cX12_isDone 4 (some .boolean)) RX12 w (some .boolean) "isDone") {post : Int32 → St → Prop}  (hq : post 1 S) : K p l e rX12_isDone s m args below meth c 4 w 0 0 (MQ below (va_Qi post (fun S' t => Hd w S' t.heap) (wA w)) args s 0 0 (wA w)) S 79 [] [] := by
  refine k_iconst (v := 1) B (by decide) dX12_isDone_79 ?_
  exact ret_Z B rfl dX12_isDone_80 (by decide) (hq)
theorem bX12_isDone_81 (B : Bd p s m args meth c cX12_isDone 4 (wsOf yX12_isDone cX12_isDone 4 (some .boolean)) RX12 w (some .boolean) "isDone") {v0 : Nat} {v1 : Int32} {x1 : Nat} {Q : State → Prop} (h1 : kd S v0 = 14) (h2 : gP S 835 v0 = some x1) (h3 : kd S x1 = 21) (h4 : vp_in v1 (ln S x1)) (kk : K p l e rX12_isDone s m args below meth c 4 w 0 0 Q (sRI S x1 (va_up (rI S x1) v1.toNatClampNeg (((rI S x1) v1.toNatClampNeg) + 1))) 91 [(0, .ref v0), (1, .int v1)] []) : K p l e rX12_isDone s m args below meth c 4 w 0 0 Q S 81 [(0, .ref v0), (1, .int v1)] [] := by
  refine k_aload_n B 0 rfl rfl dX12_isDone_81 ?_
  refine k_getP (f := 835) (r := gP S 835 v0) B 13 3 rfl (by decide) rfl (by decide) rfl rfl (fun w h => in_of (uw_13 w h)) (in_of qfRX12_19) dX12_isDone_82 h1 rfl ?_
  rw [h2]; change K _ _ _ _ _ _ _ _ _ _ _ _ _ _ _ _ _ _ (.ref x1 :: _)
  refine k_iload_n B 1 rfl rfl dX12_isDone_85 ?_
  refine k_dup2 B rfl rfl dX12_isDone_86 ?_
  refine k_iald (v := (rI S x1) v1.toNatClampNeg) B dX12_isDone_87 h3 h4 rfl ?_
  refine k_iconst (v := 1) B (by decide) dX12_isDone_88 ?_
  refine k_iadd B dX12_isDone_89 ?_
  refine k_iast (g := rI S x1) (S' := sRI S x1 (va_up (rI S x1) v1.toNatClampNeg (((rI S x1) v1.toNatClampNeg) + 1))) B dX12_isDone_90 h3 h4 rfl rfl ?_
  exact kk
theorem bX12_isDone_91 (B : Bd p s m args meth c cX12_isDone 4 (wsOf yX12_isDone cX12_isDone 4 (some .boolean)) RX12 w (some .boolean) "isDone") {v0 : Nat} {v1 : Int32} {x1 : Nat} {x2 : Nat} {Q : State → Prop} (h1 : kd S v0 = 14) (h2 : gP S 846 v0 = some x1) (h3 : kd S x1 = 15) (h4 : gP S 914 x1 = some x2) (h5 : kd S x2 = 21) (h6 : vp_in v1 (ln S x2)) (kt : ((rI S x2) v1.toNatClampNeg) = 2 → K p l e rX12_isDone s m args below meth c 4 w 0 0 Q S 114 [(0, .ref v0), (1, .int v1)] []) (kf : ¬ ((rI S x2) v1.toNatClampNeg) = 2 → K p l e rX12_isDone s m args below meth c 4 w 0 0 Q S 104 [(0, .ref v0), (1, .int v1)] []) : K p l e rX12_isDone s m args below meth c 4 w 0 0 Q S 91 [(0, .ref v0), (1, .int v1)] [] := by
  refine k_aload_n B 0 rfl rfl dX12_isDone_91 ?_
  refine k_getP (f := 846) (r := gP S 846 v0) B 13 14 rfl (by decide) rfl (by decide) rfl rfl (fun w h => in_of (uw_13 w h)) (in_of qfRX12_3) dX12_isDone_92 h1 rfl ?_
  rw [h2]; change K _ _ _ _ _ _ _ _ _ _ _ _ _ _ _ _ _ _ (.ref x1 :: _)
  refine k_getPN (f := 914) (r := gP S 914 x1) B 14 18 rfl (by decide) rfl (by decide) rfl rfl (fun w h => in_of (uw_14 w h)) "LastMileModel" (nzF_25 B.2.2.2.1.2.2.2.1) dX12_isDone_95 h3 rfl ?_
  rw [h4]; change K _ _ _ _ _ _ _ _ _ _ _ _ _ _ _ _ _ _ (.ref x2 :: _)
  refine k_iload_n B 1 rfl rfl dX12_isDone_98 ?_
  refine k_iald (v := (rI S x2) v1.toNatClampNeg) B dX12_isDone_99 h5 h6 rfl ?_
  refine k_iconst (v := 2) B (by decide) dX12_isDone_100 ?_
  refine k_icmp_eq (tgt := 114) B dX12_isDone_101 (by decide) (fun c => ?_) (fun c => ?_)
  · exact kt c
  · exact kf c
theorem bX12_isDone_104 (B : Bd p s m args meth c cX12_isDone 4 (wsOf yX12_isDone cX12_isDone 4 (some .boolean)) RX12 w (some .boolean) "isDone") {v0 : Nat} {v1 : Int32} {post : Int32 → St → Prop} {Q : State → Prop} (hc : ConI l yX12_isPlaced (wsOf yX12_isPlaced cX12_isPlaced 6 (some .boolean)) rX12_isPlaced w S [.ref v0, .int v1] post) (h1 : kd S v0 = 14) (kk : ∀ (r : Int32) (S' : St), post r S' → K p l e rX12_isDone s m args below meth c 4 w 0 0 Q S' 109 [(0, .ref v0), (1, .int v1)] [.int r]) : K p l e rX12_isDone s m args below meth c 4 w 0 0 Q S 104 [(0, .ref v0), (1, .int v1)] [] := by
  refine k_aload_n B 0 rfl rfl dX12_isDone_104 ?_
  refine k_iload_n B 1 rfl rfl dX12_isDone_105 ?_
  refine callV_I (st := []) B [.int v1] (hc) (cwV 1 B.1.2.2.2.2 (gV qlRX12_129 qiX12_isPlaced qeX12_isPlaced qzRX12 qcX12_isPlaced) rfl rfl rfl (by decide +kernel) ⟨Nat.le_of_ble_eq_true rfl, Nat.le_of_ble_eq_true rfl⟩) rfl rfl (by decide) h1 (Nat.le_of_ble_eq_true rfl) rfl dX12_isDone_106 ⟨Nat.le_of_ble_eq_true rfl, Nat.le_of_ble_eq_true rfl⟩ (fun r S' hp => ?_)
  exact kk r S' hp
theorem bX12_isDone_109 (B : Bd p s m args meth c cX12_isDone 4 (wsOf yX12_isDone cX12_isDone 4 (some .boolean)) RX12 w (some .boolean) "isDone") {v0 : Nat} {v1 : Int32} {t0 : Int32} {Q : State → Prop}  (kt : t0 = 0 → K p l e rX12_isDone s m args below meth c 4 w 0 0 Q S 114 [(0, .ref v0), (1, .int v1)] []) (kf : ¬ t0 = 0 → K p l e rX12_isDone s m args below meth c 4 w 0 0 Q S 112 [] []) : K p l e rX12_isDone s m args below meth c 4 w 0 0 Q S 109 [(0, .ref v0), (1, .int v1)] [.int t0] := by
  refine k_if_eq (tgt := 114) B dX12_isDone_109 (by decide) (fun c => ?_) (fun c => ?_)
  · exact kt c
  · refine k_sub [] rfl ?_
    exact kf c
theorem bX12_isDone_112 (B : Bd p s m args meth c cX12_isDone 4 (wsOf yX12_isDone cX12_isDone 4 (some .boolean)) RX12 w (some .boolean) "isDone") {post : Int32 → St → Prop}  (hq : post 1 S) : K p l e rX12_isDone s m args below meth c 4 w 0 0 (MQ below (va_Qi post (fun S' t => Hd w S' t.heap) (wA w)) args s 0 0 (wA w)) S 112 [] [] := by
  refine k_iconst (v := 1) B (by decide) dX12_isDone_112 ?_
  exact ret_Z B rfl dX12_isDone_113 (by decide) (hq)
theorem bX12_isDone_114 (B : Bd p s m args meth c cX12_isDone 4 (wsOf yX12_isDone cX12_isDone 4 (some .boolean)) RX12 w (some .boolean) "isDone") {v0 : Nat} {v1 : Int32} {x1 : Nat} {Q : State → Prop} (h1 : kd S v0 = 14) (h2 : gP S 835 v0 = some x1) (h3 : kd S x1 = 21) (h4 : vp_in v1 (ln S x1)) (kt : ¬ ((rI S x1) v1.toNatClampNeg) = 3 → K p l e rX12_isDone s m args below meth c 4 w 0 0 Q S 131 [] []) (kf : ((rI S x1) v1.toNatClampNeg) = 3 → K p l e rX12_isDone s m args below meth c 4 w 0 0 Q S 124 [(0, .ref v0), (1, .int v1)] []) : K p l e rX12_isDone s m args below meth c 4 w 0 0 Q S 114 [(0, .ref v0), (1, .int v1)] [] := by
  refine k_aload_n B 0 rfl rfl dX12_isDone_114 ?_
  refine k_getP (f := 835) (r := gP S 835 v0) B 13 3 rfl (by decide) rfl (by decide) rfl rfl (fun w h => in_of (uw_13 w h)) (in_of qfRX12_19) dX12_isDone_115 h1 rfl ?_
  rw [h2]; change K _ _ _ _ _ _ _ _ _ _ _ _ _ _ _ _ _ _ (.ref x1 :: _)
  refine k_iload_n B 1 rfl rfl dX12_isDone_118 ?_
  refine k_iald (v := (rI S x1) v1.toNatClampNeg) B dX12_isDone_119 h3 h4 rfl ?_
  refine k_iconst (v := 3) B (by decide) dX12_isDone_120 ?_
  refine k_icmp_ne (tgt := 131) B dX12_isDone_121 (by decide) (fun c => ?_) (fun c => ?_)
  · refine k_sub [] rfl ?_
    exact kt c
  · exact kf c
theorem bX12_isDone_124 (B : Bd p s m args meth c cX12_isDone 4 (wsOf yX12_isDone cX12_isDone 4 (some .boolean)) RX12 w (some .boolean) "isDone") {v0 : Nat} {v1 : Int32} {x1 : Nat} {Q : State → Prop} (h1 : kd S v0 = 14) (h2 : gP S 834 v0 = some x1) (h3 : kd S x1 = 21) (h4 : vp_in v1 (ln S x1)) (kk : K p l e rX12_isDone s m args below meth c 4 w 0 0 Q (sRI S x1 (va_up (rI S x1) v1.toNatClampNeg 4)) 131 [] []) : K p l e rX12_isDone s m args below meth c 4 w 0 0 Q S 124 [(0, .ref v0), (1, .int v1)] [] := by
  refine k_aload_n B 0 rfl rfl dX12_isDone_124 ?_
  refine k_getP (f := 834) (r := gP S 834 v0) B 13 2 rfl (by decide) rfl (by decide) rfl rfl (fun w h => in_of (uw_13 w h)) (in_of qfRX12_15) dX12_isDone_125 h1 rfl ?_
  rw [h2]; change K _ _ _ _ _ _ _ _ _ _ _ _ _ _ _ _ _ _ (.ref x1 :: _)
  refine k_iload_n B 1 rfl rfl dX12_isDone_128 ?_
  refine k_iconst (v := 4) B (by decide) dX12_isDone_129 ?_
  refine k_iast (g := rI S x1) (S' := sRI S x1 (va_up (rI S x1) v1.toNatClampNeg 4)) B dX12_isDone_130 h3 h4 rfl rfl ?_
  refine k_sub [] rfl ?_
  exact kk
theorem bX12_isDone_131 (B : Bd p s m args meth c cX12_isDone 4 (wsOf yX12_isDone cX12_isDone 4 (some .boolean)) RX12 w (some .boolean) "isDone") {post : Int32 → St → Prop}  (hq : post 0 S) : K p l e rX12_isDone s m args below meth c 4 w 0 0 (MQ below (va_Qi post (fun S' t => Hd w S' t.heap) (wA w)) args s 0 0 (wA w)) S 131 [] [] := by
  refine k_iconst (v := 0) B (by decide) dX12_isDone_131 ?_
  exact ret_Z B rfl dX12_isDone_132 (by decide) (hq)
theorem bX12_open_0 (B : Bd p s m args meth c cX12_open 3 (wsOf yX12_open cX12_open 3 none) RX12 w none "open") {v0 : Nat} {v1 : Int32} {v2 : Int32} {x1 : Nat} {x2 : Nat} {x3 : Nat} {Q : State → Prop} (h1 : kd S v0 = 14) (h2 : gP S 839 v0 = some x1) (h3 : gP S 836 v0 = some x2) (h4 : kd S x2 = 21) (h5 : vp_in v1 (ln S x2)) (h6 : gP S 837 v0 = some x3) (h7 : kd S x3 = 21) (h8 : vp_in v1 (ln S x3)) (h9 : kd S x1 = 21) (h10 : vp_in ((3 * ((rI S x2) v1.toNatClampNeg)) + ((rI S x3) v1.toNatClampNeg)) (ln S x1)) (kk : K p l e rX12_open s m args below meth c 3 w 0 0 Q (sRI S x1 (va_up (rI S x1) ((3 * ((rI S x2) v1.toNatClampNeg)) + ((rI S x3) v1.toNatClampNeg)).toNatClampNeg (((rI S x1) ((3 * ((rI S x2) v1.toNatClampNeg)) + ((rI S x3) v1.toNatClampNeg)).toNatClampNeg) + 1))) 24 [(0, .ref v0), (1, .int v1), (2, .int v2)] []) : K p l e rX12_open s m args below meth c 3 w 0 0 Q S 0 [(0, .ref v0), (1, .int v1), (2, .int v2)] [] := by
  refine k_aload_n B 0 rfl rfl dX12_open_0 ?_
  refine k_getP (f := 839) (r := gP S 839 v0) B 13 7 rfl (by decide) rfl (by decide) rfl rfl (fun w h => in_of (uw_13 w h)) (in_of qfRX12_31) dX12_open_1 h1 rfl ?_
  rw [h2]; change K _ _ _ _ _ _ _ _ _ _ _ _ _ _ _ _ _ _ (.ref x1 :: _)
  refine k_iconst (v := 3) B (by decide) dX12_open_4 ?_
  refine k_aload_n B 0 rfl rfl dX12_open_5 ?_
  refine k_getP (f := 836) (r := gP S 836 v0) B 13 4 rfl (by decide) rfl (by decide) rfl rfl (fun w h => in_of (uw_13 w h)) (in_of qfRX12_22) dX12_open_6 h1 rfl ?_
  rw [h3]; change K _ _ _ _ _ _ _ _ _ _ _ _ _ _ _ _ _ _ (.ref x2 :: _)
  refine k_iload_n B 1 rfl rfl dX12_open_9 ?_
  refine k_iald (v := (rI S x2) v1.toNatClampNeg) B dX12_open_10 h4 h5 rfl ?_
  refine k_imul B dX12_open_11 ?_
  refine k_aload_n B 0 rfl rfl dX12_open_12 ?_
  refine k_getP (f := 837) (r := gP S 837 v0) B 13 5 rfl (by decide) rfl (by decide) rfl rfl (fun w h => in_of (uw_13 w h)) (in_of qfRX12_25) dX12_open_13 h1 rfl ?_
  rw [h6]; change K _ _ _ _ _ _ _ _ _ _ _ _ _ _ _ _ _ _ (.ref x3 :: _)
  refine k_iload_n B 1 rfl rfl dX12_open_16 ?_
  refine k_iald (v := (rI S x3) v1.toNatClampNeg) B dX12_open_17 h7 h8 rfl ?_
  refine k_iadd B dX12_open_18 ?_
  refine k_dup2 B rfl rfl dX12_open_19 ?_
  refine k_iald (v := (rI S x1) ((3 * ((rI S x2) v1.toNatClampNeg)) + ((rI S x3) v1.toNatClampNeg)).toNatClampNeg) B dX12_open_20 h9 h10 rfl ?_
  refine k_iconst (v := 1) B (by decide) dX12_open_21 ?_
  refine k_iadd B dX12_open_22 ?_
  refine k_iast (g := rI S x1) (S' := sRI S x1 (va_up (rI S x1) ((3 * ((rI S x2) v1.toNatClampNeg)) + ((rI S x3) v1.toNatClampNeg)).toNatClampNeg (((rI S x1) ((3 * ((rI S x2) v1.toNatClampNeg)) + ((rI S x3) v1.toNatClampNeg)).toNatClampNeg) + 1))) B dX12_open_23 h9 h10 rfl rfl ?_
  exact kk
theorem bX12_open_24 (B : Bd p s m args meth c cX12_open 3 (wsOf yX12_open cX12_open 3 none) RX12 w none "open") {v0 : Nat} {v1 : Int32} {v2 : Int32} {x1 : Nat} {Q : State → Prop} (h1 : kd S v0 = 14) (h2 : gP S 836 v0 = some x1) (h3 : kd S x1 = 21) (h4 : vp_in v1 (ln S x1)) (kk : K p l e rX12_open s m args below meth c 3 w 0 0 Q (sRI S x1 (va_up (rI S x1) v1.toNatClampNeg (-1))) 31 [(0, .ref v0), (1, .int v1), (2, .int v2)] []) : K p l e rX12_open s m args below meth c 3 w 0 0 Q S 24 [(0, .ref v0), (1, .int v1), (2, .int v2)] [] := by
  refine k_aload_n B 0 rfl rfl dX12_open_24 ?_
  refine k_getP (f := 836) (r := gP S 836 v0) B 13 4 rfl (by decide) rfl (by decide) rfl rfl (fun w h => in_of (uw_13 w h)) (in_of qfRX12_22) dX12_open_25 h1 rfl ?_
  rw [h2]; change K _ _ _ _ _ _ _ _ _ _ _ _ _ _ _ _ _ _ (.ref x1 :: _)
  refine k_iload_n B 1 rfl rfl dX12_open_28 ?_
  refine k_iconst (v := (-1)) B (by decide) dX12_open_29 ?_
  refine k_iast (g := rI S x1) (S' := sRI S x1 (va_up (rI S x1) v1.toNatClampNeg (-1))) B dX12_open_30 h3 h4 rfl rfl ?_
  exact kk
theorem bX12_open_31 (B : Bd p s m args meth c cX12_open 3 (wsOf yX12_open cX12_open 3 none) RX12 w none "open") {v0 : Nat} {v1 : Int32} {v2 : Int32} {x1 : Nat} {Q : State → Prop} (h1 : kd S v0 = 14) (h2 : gP S 834 v0 = some x1) (h3 : kd S x1 = 21) (h4 : vp_in v1 (ln S x1)) (kk : K p l e rX12_open s m args below meth c 3 w 0 0 Q (sRI S x1 (va_up (rI S x1) v1.toNatClampNeg v2)) 38 [] []) : K p l e rX12_open s m args below meth c 3 w 0 0 Q S 31 [(0, .ref v0), (1, .int v1), (2, .int v2)] [] := by
  refine k_aload_n B 0 rfl rfl dX12_open_31 ?_
  refine k_getP (f := 834) (r := gP S 834 v0) B 13 2 rfl (by decide) rfl (by decide) rfl rfl (fun w h => in_of (uw_13 w h)) (in_of qfRX12_15) dX12_open_32 h1 rfl ?_
  rw [h2]; change K _ _ _ _ _ _ _ _ _ _ _ _ _ _ _ _ _ _ (.ref x1 :: _)
  refine k_iload_n B 1 rfl rfl dX12_open_35 ?_
  refine k_iload_n B 2 rfl rfl dX12_open_36 ?_
  refine k_iast (g := rI S x1) (S' := sRI S x1 (va_up (rI S x1) v1.toNatClampNeg v2)) B dX12_open_37 h3 h4 rfl rfl ?_
  refine k_sub [] rfl ?_
  exact kk
theorem bX12_open_38 (B : Bd p s m args meth c cX12_open 3 (wsOf yX12_open cX12_open 3 none) RX12 w none "open") {post : St → Prop}  (hq : post S) : K p l e rX12_open s m args below meth c 3 w 0 0 (MQ below (va_Qv post (fun S' t => Hd w S' t.heap) (wA w)) args s 0 0 (wA w)) S 38 [] [] := by
  exact ret_V B rfl dX12_open_38 (hq)
theorem bX12_drive_0 (B : Bd p s m args meth c cX12_drive 4 (wsOf yX12_drive cX12_drive 4 (some .int)) RX12 w (some .int) "drive") {v0 : Nat} {Q : State → Prop} (h1 : kd S v0 = 14) (kk : K p l e rX12_drive s m args below meth c 4 w 0 0 Q (sI S 833 v0 0) 9 [(0, .ref v0), (1, .int 0), (2, .int 0)] []) : K p l e rX12_drive s m args below meth c 4 w 0 0 Q S 0 [(0, .ref v0)] [] := by
  refine k_iconst (v := 0) B (by decide) dX12_drive_0 ?_
  refine k_istore_n (lst' := [(1, .int 0), (0, .ref v0)]) B rfl (by decide) rfl dX12_drive_1 ?_
  refine k_aload_n B 1 rfl rfl dX12_drive_2 ?_
  refine k_iconst (v := 0) B (by decide) dX12_drive_3 ?_
  refine k_putI (f := 833) B 13 1 rfl (by decide) rfl (by decide) rfl rfl (fun w h => in_of (uw_13 w h)) (in_of qfRX12_132) tyX12 tyX12_ok nmX12 rfl (tyX12_ok 1 (by decide)) dX12_drive_4 h1 ?_
  refine k_iconst (v := 0) B (by decide) dX12_drive_7 ?_
  refine k_istore_n (lst' := [(2, .int 0), (1, .int 0), (0, .ref v0)]) B rfl (by decide) rfl dX12_drive_8 ?_
  refine k_sub [2, 1, 0] rfl ?_
  exact kk
theorem bX12_drive_9 (B : Bd p s m args meth c cX12_drive 4 (wsOf yX12_drive cX12_drive 4 (some .int)) RX12 w (some .int) "drive") {v0 : Nat} {v1 : Int32} {v2 : Int32} {x1 : Nat} {Q : State → Prop} (h1 : kd S v0 = 14) (h2 : gP S 846 v0 = some x1) (h3 : kd S x1 = 15) (kt : (gI S 909 x1) ≤ v2 → K p l e rX12_drive s m args below meth c 4 w 0 0 Q S 172 [(0, .ref v0), (1, .int v1)] []) (kf : ¬ (gI S 909 x1) ≤ v2 → K p l e rX12_drive s m args below meth c 4 w 0 0 Q S 20 [(0, .ref v0), (1, .int v1), (2, .int v2)] []) : K p l e rX12_drive s m args below meth c 4 w 0 0 Q S 9 [(0, .ref v0), (1, .int v1), (2, .int v2)] [] := by
  refine k_iload_n B 2 rfl rfl dX12_drive_9 ?_
  refine k_aload_n B 0 rfl rfl dX12_drive_10 ?_
  refine k_getP (f := 846) (r := gP S 846 v0) B 13 14 rfl (by decide) rfl (by decide) rfl rfl (fun w h => in_of (uw_13 w h)) (in_of qfRX12_3) dX12_drive_11 h1 rfl ?_
  rw [h2]; change K _ _ _ _ _ _ _ _ _ _ _ _ _ _ _ _ _ _ (.ref x1 :: _)
  refine k_getIN (f := 909) (v := gI S 909 x1) B 14 13 rfl (by decide) rfl (by decide) rfl rfl (fun w h => in_of (uw_14 w h)) "LastMileModel" (nzF_19 B.2.2.2.1.2.2.2.1) dX12_drive_14 h3 rfl ?_
  refine k_icmp_ge (tgt := 172) B dX12_drive_17 (by decide) (fun c => ?_) (fun c => ?_)
  · refine k_sub [0, 1] rfl ?_
    exact kt c
  · exact kf c
theorem bX12_drive_20 (B : Bd p s m args meth c cX12_drive 4 (wsOf yX12_drive cX12_drive 4 (some .int)) RX12 w (some .int) "drive") {v0 : Nat} {v1 : Int32} {v2 : Int32} {x1 : Nat} {x2 : Nat} {x3 : Nat} {x4 : Nat} {Q : State → Prop} (h1 : kd S v0 = 14) (h2 : gP S 846 v0 = some x1) (h3 : kd S x1 = 15) (h4 : gP S 911 x1 = some x2) (h5 : kd S x2 = 21) (h6 : vp_in v2 (ln S x2)) (h7 : gP S 846 v0 = some x3) (h8 : kd S x3 = 15) (h9 : gP S 846 v0 = some x4) (h10 : kd S x4 = 15) (kk : K p l e rX12_drive s m args below meth c 4 w 0 0 Q (sI (sI (sI (sI S 842 v0 ((rI S x2) v2.toNatClampNeg)) 843 v0 ((rI S x2) v2.toNatClampNeg)) 844 v0 (gI S 898 x3)) 845 v0 (gI S 899 x4)) 65 [(0, .ref v0), (1, .int v1), (2, .int v2), (3, .int 0)] []) : K p l e rX12_drive s m args below meth c 4 w 0 0 Q S 20 [(0, .ref v0), (1, .int v1), (2, .int v2)] [] := by
  refine k_aload_n B 0 rfl rfl dX12_drive_20 ?_
  refine k_aload_n B 0 rfl rfl dX12_drive_21 ?_
  refine k_getP (f := 846) (r := gP S 846 v0) B 13 14 rfl (by decide) rfl (by decide) rfl rfl (fun w h => in_of (uw_13 w h)) (in_of qfRX12_3) dX12_drive_22 h1 rfl ?_
  rw [h2]; change K _ _ _ _ _ _ _ _ _ _ _ _ _ _ _ _ _ _ (.ref x1 :: _)
  refine k_getPN (f := 911) (r := gP S 911 x1) B 14 15 rfl (by decide) rfl (by decide) rfl rfl (fun w h => in_of (uw_14 w h)) "LastMileModel" (nzF_14 B.2.2.2.1.2.2.2.1) dX12_drive_25 h3 rfl ?_
  rw [h4]; change K _ _ _ _ _ _ _ _ _ _ _ _ _ _ _ _ _ _ (.ref x2 :: _)
  refine k_iload_n B 2 rfl rfl dX12_drive_28 ?_
  refine k_iald (v := (rI S x2) v2.toNatClampNeg) B dX12_drive_29 h5 h6 rfl ?_
  refine k_putI (f := 842) B 13 10 rfl (by decide) rfl (by decide) rfl rfl (fun w h => in_of (uw_13 w h)) (in_of qfRX12_60) tyX12 tyX12_ok nmX12 rfl (tyX12_ok 10 (by decide)) dX12_drive_30 h1 ?_
  refine k_aload_n B 0 rfl rfl dX12_drive_33 ?_
  refine k_aload_n B 0 rfl rfl dX12_drive_34 ?_
  refine k_getI (f := 842) (v := (rI S x2) v2.toNatClampNeg) B 13 10 rfl (by decide) rfl (by decide) rfl rfl (fun w h => in_of (uw_13 w h)) (in_of qfRX12_60) dX12_drive_35 h1 (by simp [kd_sI, kd_sP, kd_sRI, kd_sRP, kd_nw, gI_sI, gI_sP, gI_sRI, gI_sRP, gI_nw, gP_sI, gP_sP, gP_sRI, gP_sRP, gP_nw, ln_sI, ln_sP, ln_sRI, ln_sRP, ln_nw, rI_sI, rI_sP, rI_sRI, rI_sRP, rI_nw, rP_sI, rP_sP, rP_sRI, rP_sRP, rP_nw, va_up_self]) ?_
  refine k_putI (f := 843) B 13 11 rfl (by decide) rfl (by decide) rfl rfl (fun w h => in_of (uw_13 w h)) (in_of qfRX12_77) tyX12 tyX12_ok nmX12 rfl (tyX12_ok 11 (by decide)) dX12_drive_38 h1 ?_
  refine k_aload_n B 0 rfl rfl dX12_drive_41 ?_
  refine k_aload_n B 0 rfl rfl dX12_drive_42 ?_
  refine k_getP (f := 846) (r := gP S 846 v0) B 13 14 rfl (by decide) rfl (by decide) rfl rfl (fun w h => in_of (uw_13 w h)) (in_of qfRX12_3) dX12_drive_43 h1 rfl ?_
  rw [h7]; change K _ _ _ _ _ _ _ _ _ _ _ _ _ _ _ _ _ _ (.ref x3 :: _)
  refine k_getIN (f := 898) (v := gI S 898 x3) B 14 2 rfl (by decide) rfl (by decide) rfl rfl (fun w h => in_of (uw_14 w h)) "LastMileModel" (nzF_15 B.2.2.2.1.2.2.2.1) dX12_drive_46 h8 rfl ?_
  refine k_putI (f := 844) B 13 12 rfl (by decide) rfl (by decide) rfl rfl (fun w h => in_of (uw_13 w h)) (in_of qfRX12_63) tyX12 tyX12_ok nmX12 rfl (tyX12_ok 12 (by decide)) dX12_drive_49 h1 ?_
  refine k_aload_n B 0 rfl rfl dX12_drive_52 ?_
  refine k_aload_n B 0 rfl rfl dX12_drive_53 ?_
  refine k_getP (f := 846) (r := gP S 846 v0) B 13 14 rfl (by decide) rfl (by decide) rfl rfl (fun w h => in_of (uw_13 w h)) (in_of qfRX12_3) dX12_drive_54 h1 rfl ?_
  rw [h9]; change K _ _ _ _ _ _ _ _ _ _ _ _ _ _ _ _ _ _ (.ref x4 :: _)
  refine k_getIN (f := 899) (v := gI S 899 x4) B 14 3 rfl (by decide) rfl (by decide) rfl rfl (fun w h => in_of (uw_14 w h)) "LastMileModel" (nzF_16 B.2.2.2.1.2.2.2.1) dX12_drive_57 h10 rfl ?_
  refine k_putI (f := 845) B 13 13 rfl (by decide) rfl (by decide) rfl rfl (fun w h => in_of (uw_13 w h)) (in_of qfRX12_66) tyX12 tyX12_ok nmX12 rfl (tyX12_ok 13 (by decide)) dX12_drive_60 h1 ?_
  refine k_iconst (v := 0) B (by decide) dX12_drive_63 ?_
  refine k_istore_n (lst' := [(3, .int 0), (0, .ref v0), (1, .int v1), (2, .int v2)]) B rfl (by decide) rfl dX12_drive_64 ?_
  refine k_sub [1, 2, 3, 0] rfl ?_
  exact kk
theorem bX12_drive_65 (B : Bd p s m args meth c cX12_drive 4 (wsOf yX12_drive cX12_drive 4 (some .int)) RX12 w (some .int) "drive") {v0 : Nat} {v1 : Int32} {v2 : Int32} {v3 : Int32} {x1 : Nat} {Q : State → Prop} (h1 : kd S v0 = 14) (h2 : gP S 840 v0 = some x1) (h3 : kd S x1 = 21) (h4 : vp_in v2 (ln S x1)) (kt : ((rI S x1) v2.toNatClampNeg) ≤ v3 → K p l e rX12_drive s m args below meth c 4 w 0 0 Q S 126 [(0, .ref v0), (1, .int v1), (2, .int v2)] []) (kf : ¬ ((rI S x1) v2.toNatClampNeg) ≤ v3 → K p l e rX12_drive s m args below meth c 4 w 0 0 Q S 75 [(0, .ref v0), (1, .int v1), (2, .int v2), (3, .int v3)] []) : K p l e rX12_drive s m args below meth c 4 w 0 0 Q S 65 [(0, .ref v0), (1, .int v1), (2, .int v2), (3, .int v3)] [] := by
  refine k_iload_n B 3 rfl rfl dX12_drive_65 ?_
  refine k_aload_n B 0 rfl rfl dX12_drive_66 ?_
  refine k_getP (f := 840) (r := gP S 840 v0) B 13 8 rfl (by decide) rfl (by decide) rfl rfl (fun w h => in_of (uw_13 w h)) (in_of qfRX12_34) dX12_drive_67 h1 rfl ?_
  rw [h2]; change K _ _ _ _ _ _ _ _ _ _ _ _ _ _ _ _ _ _ (.ref x1 :: _)
  refine k_iload_n B 2 rfl rfl dX12_drive_70 ?_
  refine k_iald (v := (rI S x1) v2.toNatClampNeg) B dX12_drive_71 h3 h4 rfl ?_
  refine k_icmp_ge (tgt := 126) B dX12_drive_72 (by decide) (fun c => ?_) (fun c => ?_)
  · refine k_sub [0, 1, 2] rfl ?_
    exact kt c
  · exact kf c
theorem bX12_drive_75 (B : Bd p s m args meth c cX12_drive 4 (wsOf yX12_drive cX12_drive 4 (some .int)) RX12 w (some .int) "drive") {v0 : Nat} {v1 : Int32} {v2 : Int32} {v3 : Int32} {x1 : Nat} {x2 : Nat} {Q : State → Prop} (h1 : kd S v0 = 14) (h2 : gP S 846 v0 = some x1) (h3 : kd S x1 = 15) (h4 : gP S 912 x1 = some x2) (h5 : kd S x2 = 21) (h6 : vp_in v2 (ln S x2)) (kt : (((rI S x2) v2.toNatClampNeg) + 60) < (gI S 842 v0) → K p l e rX12_drive s m args below meth c 4 w 0 0 Q S 126 [(0, .ref v0), (1, .int v1), (2, .int v2)] []) (kf : ¬ (((rI S x2) v2.toNatClampNeg) + 60) < (gI S 842 v0) → K p l e rX12_drive s m args below meth c 4 w 0 0 Q S 94 [(0, .ref v0), (1, .int v1), (2, .int v2), (3, .int v3)] []) : K p l e rX12_drive s m args below meth c 4 w 0 0 Q S 75 [(0, .ref v0), (1, .int v1), (2, .int v2), (3, .int v3)] [] := by
  refine k_aload_n B 0 rfl rfl dX12_drive_75 ?_
  refine k_getI (f := 842) (v := gI S 842 v0) B 13 10 rfl (by decide) rfl (by decide) rfl rfl (fun w h => in_of (uw_13 w h)) (in_of qfRX12_60) dX12_drive_76 h1 rfl ?_
  refine k_aload_n B 0 rfl rfl dX12_drive_79 ?_
  refine k_getP (f := 846) (r := gP S 846 v0) B 13 14 rfl (by decide) rfl (by decide) rfl rfl (fun w h => in_of (uw_13 w h)) (in_of qfRX12_3) dX12_drive_80 h1 rfl ?_
  rw [h2]; change K _ _ _ _ _ _ _ _ _ _ _ _ _ _ _ _ _ _ (.ref x1 :: _)
  refine k_getPN (f := 912) (r := gP S 912 x1) B 14 16 rfl (by decide) rfl (by decide) rfl rfl (fun w h => in_of (uw_14 w h)) "LastMileModel" (nzF_17 B.2.2.2.1.2.2.2.1) dX12_drive_83 h3 rfl ?_
  rw [h4]; change K _ _ _ _ _ _ _ _ _ _ _ _ _ _ _ _ _ _ (.ref x2 :: _)
  refine k_iload_n B 2 rfl rfl dX12_drive_86 ?_
  refine k_iald (v := (rI S x2) v2.toNatClampNeg) B dX12_drive_87 h5 h6 rfl ?_
  refine k_bipush (v := 60) B (by decide) dX12_drive_88 ?_
  refine k_iadd B dX12_drive_90 ?_
  refine k_icmp_gt (tgt := 126) B dX12_drive_91 (by decide) (fun c => ?_) (fun c => ?_)
  · refine k_sub [0, 1, 2] rfl ?_
    exact kt c
  · exact kf c
theorem bX12_drive_94 (B : Bd p s m args meth c cX12_drive 4 (wsOf yX12_drive cX12_drive 4 (some .int)) RX12 w (some .int) "drive") {v0 : Nat} {v1 : Int32} {v2 : Int32} {v3 : Int32} {x1 : Nat} {post : Int32 → St → Prop} {Q : State → Prop} (h1 : kd S v0 = 14) (h2 : gP S 841 v0 = some x1) (h3 : kd S x1 = 21) (h4 : vp_in ((12 * v2) + v3) (ln S x1)) (hc : ConI l yX12_isDone (wsOf yX12_isDone cX12_isDone 4 (some .boolean)) rX12_isDone w S [.ref v0, .int ((rI S x1) ((12 * v2) + v3).toNatClampNeg)] post) (kk : ∀ (r : Int32) (S' : St), post r S' → K p l e rX12_drive s m args below meth c 4 w 0 0 Q S' 110 [(0, .ref v0), (2, .int v2), (3, .int v3)] [.int r, .int v1]) : K p l e rX12_drive s m args below meth c 4 w 0 0 Q S 94 [(0, .ref v0), (1, .int v1), (2, .int v2), (3, .int v3)] [] := by
  refine k_iload_n B 1 rfl rfl dX12_drive_94 ?_
  refine k_aload_n B 0 rfl rfl dX12_drive_95 ?_
  refine k_aload_n B 0 rfl rfl dX12_drive_96 ?_
  refine k_getP (f := 841) (r := gP S 841 v0) B 13 9 rfl (by decide) rfl (by decide) rfl rfl (fun w h => in_of (uw_13 w h)) (in_of qfRX12_37) dX12_drive_97 h1 rfl ?_
  rw [h2]; change K _ _ _ _ _ _ _ _ _ _ _ _ _ _ _ _ _ _ (.ref x1 :: _)
  refine k_bipush (v := 12) B (by decide) dX12_drive_100 ?_
  refine k_iload_n B 2 rfl rfl dX12_drive_102 ?_
  refine k_imul B dX12_drive_103 ?_
  refine k_iload_n B 3 rfl rfl dX12_drive_104 ?_
  refine k_iadd B dX12_drive_105 ?_
  refine k_iald (v := (rI S x1) ((12 * v2) + v3).toNatClampNeg) B dX12_drive_106 h3 h4 rfl ?_
  refine callV_I (st := [.int v1]) B [.int ((rI S x1) ((12 * v2) + v3).toNatClampNeg)] (hc) (cwV 1 B.1.2.2.2.2 (gV qlRX12_147 qiX12_isDone qeX12_isDone qzRX12 qcX12_isDone) rfl rfl rfl (by decide +kernel) ⟨Nat.le_of_ble_eq_true rfl, Nat.le_of_ble_eq_true rfl⟩) rfl rfl (by decide) h1 (Nat.le_of_ble_eq_true rfl) rfl dX12_drive_107 ⟨Nat.le_of_ble_eq_true rfl, Nat.le_of_ble_eq_true rfl⟩ (fun r S' hp => ?_)
  refine k_sub [0, 2, 3] rfl ?_
  exact kk r S' hp
theorem bX12_drive_110 (B : Bd p s m args meth c cX12_drive 4 (wsOf yX12_drive cX12_drive 4 (some .int)) RX12 w (some .int) "drive") {v0 : Nat} {v2 : Int32} {v3 : Int32} {t0 : Int32} {t1 : Int32} {Q : State → Prop}  (kt : t1 = 0 → K p l e rX12_drive s m args below meth c 4 w 0 0 Q S 117 [(0, .ref v0), (2, .int v2), (3, .int v3)] [.int t0]) (kf : ¬ t1 = 0 → K p l e rX12_drive s m args below meth c 4 w 0 0 Q S 113 [(0, .ref v0), (2, .int v2), (3, .int v3)] [.int t0]) : K p l e rX12_drive s m args below meth c 4 w 0 0 Q S 110 [(0, .ref v0), (2, .int v2), (3, .int v3)] [.int t1, .int t0] := by
  refine k_if_eq (tgt := 117) B dX12_drive_110 (by decide) (fun c => ?_) (fun c => ?_)
  · exact kt c
  · exact kf c
theorem bX12_drive_113 (B : Bd p s m args meth c cX12_drive 4 (wsOf yX12_drive cX12_drive 4 (some .int)) RX12 w (some .int) "drive") {v0 : Nat} {v2 : Int32} {v3 : Int32} {t0 : Int32} {Q : State → Prop}  (kk : K p l e rX12_drive s m args below meth c 4 w 0 0 Q S 118 [(0, .ref v0), (2, .int v2), (3, .int v3)] [.int 1, .int t0]) : K p l e rX12_drive s m args below meth c 4 w 0 0 Q S 113 [(0, .ref v0), (2, .int v2), (3, .int v3)] [.int t0] := by
  refine k_iconst (v := 1) B (by decide) dX12_drive_113 ?_
  refine k_goto (tgt := 118) B dX12_drive_114 (by decide) ?_
  exact kk
theorem bX12_drive_117 (B : Bd p s m args meth c cX12_drive 4 (wsOf yX12_drive cX12_drive 4 (some .int)) RX12 w (some .int) "drive") {v0 : Nat} {v2 : Int32} {v3 : Int32} {t0 : Int32} {Q : State → Prop}  (kk : K p l e rX12_drive s m args below meth c 4 w 0 0 Q S 118 [(0, .ref v0), (2, .int v2), (3, .int v3)] [.int 0, .int t0]) : K p l e rX12_drive s m args below meth c 4 w 0 0 Q S 117 [(0, .ref v0), (2, .int v2), (3, .int v3)] [.int t0] := by
  refine k_iconst (v := 0) B (by decide) dX12_drive_117 ?_
  exact kk
theorem bX12_drive_118 (B : Bd p s m args meth c cX12_drive 4 (wsOf yX12_drive cX12_drive 4 (some .int)) RX12 w (some .int) "drive") {v0 : Nat} {v2 : Int32} {v3 : Int32} {t0 : Int32} {t1 : Int32} {Q : State → Prop}  (kk : K p l e rX12_drive s m args below meth c 4 w 0 0 Q S 65 [(0, .ref v0), (1, .int (t0 + t1)), (2, .int v2), (3, .int (v3 + 1))] []) : K p l e rX12_drive s m args below meth c 4 w 0 0 Q S 118 [(0, .ref v0), (2, .int v2), (3, .int v3)] [.int t1, .int t0] := by
  refine k_iadd B dX12_drive_118 ?_
  refine k_istore_n (lst' := [(1, .int (t0 + t1)), (0, .ref v0), (2, .int v2), (3, .int v3)]) B rfl (by decide) rfl dX12_drive_119 ?_
  refine k_iinc (v := v3 + 1) (lst' := [(3, .int (v3 + 1)), (1, .int (t0 + t1)), (0, .ref v0), (2, .int v2)]) B 3 rfl rfl (by decide) rfl dX12_drive_120 ?_
  refine k_goto (tgt := 65) B dX12_drive_123 (by decide) ?_
  refine k_sub [2, 1, 3, 0] rfl ?_
  exact kk
theorem bX12_drive_126 (B : Bd p s m args meth c cX12_drive 4 (wsOf yX12_drive cX12_drive 4 (some .int)) RX12 w (some .int) "drive") {v0 : Nat} {v1 : Int32} {v2 : Int32} {x1 : Nat} {x2 : Nat} {post : St → Prop} {Q : State → Prop} (h1 : kd S v0 = 14) (h2 : gP S 846 v0 = some x1) (h3 : kd S x1 = 15) (h4 : gP S 846 v0 = some x2) (h5 : kd S x2 = 15) (hc : ConV l yX12_work (wsOf yX12_work cX12_work 3 none) rX12_work w S [.ref v0, .int (gI S 898 x1), .int (gI S 899 x2)] post) (kk : ∀ (S' : St), post S' → K p l e rX12_drive s m args below meth c 4 w 0 0 Q S' 144 [(0, .ref v0), (1, .int v1), (2, .int v2)] []) : K p l e rX12_drive s m args below meth c 4 w 0 0 Q S 126 [(0, .ref v0), (1, .int v1), (2, .int v2)] [] := by
  refine k_aload_n B 0 rfl rfl dX12_drive_126 ?_
  refine k_aload_n B 0 rfl rfl dX12_drive_127 ?_
  refine k_getP (f := 846) (r := gP S 846 v0) B 13 14 rfl (by decide) rfl (by decide) rfl rfl (fun w h => in_of (uw_13 w h)) (in_of qfRX12_3) dX12_drive_128 h1 rfl ?_
  rw [h2]; change K _ _ _ _ _ _ _ _ _ _ _ _ _ _ _ _ _ _ (.ref x1 :: _)
  refine k_getIN (f := 898) (v := gI S 898 x1) B 14 2 rfl (by decide) rfl (by decide) rfl rfl (fun w h => in_of (uw_14 w h)) "LastMileModel" (nzF_15 B.2.2.2.1.2.2.2.1) dX12_drive_131 h3 rfl ?_
  refine k_aload_n B 0 rfl rfl dX12_drive_134 ?_
  refine k_getP (f := 846) (r := gP S 846 v0) B 13 14 rfl (by decide) rfl (by decide) rfl rfl (fun w h => in_of (uw_13 w h)) (in_of qfRX12_3) dX12_drive_135 h1 rfl ?_
  rw [h4]; change K _ _ _ _ _ _ _ _ _ _ _ _ _ _ _ _ _ _ (.ref x2 :: _)
  refine k_getIN (f := 899) (v := gI S 899 x2) B 14 3 rfl (by decide) rfl (by decide) rfl rfl (fun w h => in_of (uw_14 w h)) "LastMileModel" (nzF_16 B.2.2.2.1.2.2.2.1) dX12_drive_138 h5 rfl ?_
  refine callV_V (st := []) B [.int (gI S 898 x1), .int (gI S 899 x2)] (hc) (cwV 2 B.1.2.2.2.2 (gV qlRX12_118 qiX12_work qeX12_work qzRX12 qcX12_work) rfl rfl rfl (by decide +kernel) ⟨Nat.le_of_ble_eq_true rfl, Nat.le_of_ble_eq_true rfl⟩) rfl rfl (by decide) h1 (Nat.le_of_ble_eq_true rfl) rfl dX12_drive_141 ⟨Nat.le_of_ble_eq_true rfl, Nat.le_of_ble_eq_true rfl⟩ (fun S' hp => ?_)
  exact kk S' hp
theorem bX12_drive_144 (B : Bd p s m args meth c cX12_drive 4 (wsOf yX12_drive cX12_drive 4 (some .int)) RX12 w (some .int) "drive") {v0 : Nat} {v1 : Int32} {v2 : Int32} {x1 : Nat} {Q : State → Prop} (h1 : kd S v0 = 14) (h2 : gP S 840 v0 = some x1) (h3 : kd S x1 = 21) (h4 : vp_in v2 (ln S x1)) (kk : K p l e rX12_drive s m args below meth c 4 w 0 0 Q (sRI (sI S 833 v0 (if (gI S 833 v0) < (gI S 842 v0) then (gI S 842 v0) else (gI S 833 v0))) x1 (va_up (rI S x1) v2.toNatClampNeg 0)) 166 [(0, .ref v0), (1, .int v1), (2, .int v2)] []) : K p l e rX12_drive s m args below meth c 4 w 0 0 Q S 144 [(0, .ref v0), (1, .int v1), (2, .int v2)] [] := by
  refine k_aload_n B 0 rfl rfl dX12_drive_144 ?_
  refine k_aload_n B 0 rfl rfl dX12_drive_145 ?_
  refine k_getI (f := 833) (v := gI S 833 v0) B 13 1 rfl (by decide) rfl (by decide) rfl rfl (fun w h => in_of (uw_13 w h)) (in_of qfRX12_132) dX12_drive_146 h1 rfl ?_
  refine k_aload_n B 0 rfl rfl dX12_drive_149 ?_
  refine k_getI (f := 842) (v := gI S 842 v0) B 13 10 rfl (by decide) rfl (by decide) rfl rfl (fun w h => in_of (uw_13 w h)) (in_of qfRX12_60) dX12_drive_150 h1 rfl ?_
  refine k_max B (in_of qlRX12_124) (in_of qs_max) (in_of qz_Math) (in_of qc_max) (Nat.le_of_ble_eq_true rfl) (Nat.le_of_ble_eq_true rfl) (Nat.le_of_ble_eq_true rfl) (Nat.le_of_ble_eq_true rfl) dX12_drive_153 ?_
  refine k_putI (f := 833) B 13 1 rfl (by decide) rfl (by decide) rfl rfl (fun w h => in_of (uw_13 w h)) (in_of qfRX12_132) tyX12 tyX12_ok nmX12 rfl (tyX12_ok 1 (by decide)) dX12_drive_156 h1 ?_
  refine k_aload_n B 0 rfl rfl dX12_drive_159 ?_
  refine k_getP (f := 840) (r := gP S 840 v0) B 13 8 rfl (by decide) rfl (by decide) rfl rfl (fun w h => in_of (uw_13 w h)) (in_of qfRX12_34) dX12_drive_160 h1 rfl ?_
  rw [h2]; change K _ _ _ _ _ _ _ _ _ _ _ _ _ _ _ _ _ _ (.ref x1 :: _)
  refine k_iload_n B 2 rfl rfl dX12_drive_163 ?_
  refine k_iconst (v := 0) B (by decide) dX12_drive_164 ?_
  refine k_iast (g := rI S x1) (S' := sRI (sI S 833 v0 (if (gI S 833 v0) < (gI S 842 v0) then (gI S 842 v0) else (gI S 833 v0))) x1 (va_up (rI S x1) v2.toNatClampNeg 0)) B dX12_drive_165 h3 h4 rfl rfl ?_
  exact kk
theorem bX12_drive_166 (B : Bd p s m args meth c cX12_drive 4 (wsOf yX12_drive cX12_drive 4 (some .int)) RX12 w (some .int) "drive") {v0 : Nat} {v1 : Int32} {v2 : Int32} {Q : State → Prop}  (kk : K p l e rX12_drive s m args below meth c 4 w 0 0 Q S 9 [(0, .ref v0), (1, .int v1), (2, .int (v2 + 1))] []) : K p l e rX12_drive s m args below meth c 4 w 0 0 Q S 166 [(0, .ref v0), (1, .int v1), (2, .int v2)] [] := by
  refine k_iinc (v := v2 + 1) (lst' := [(2, .int (v2 + 1)), (0, .ref v0), (1, .int v1)]) B 2 rfl rfl (by decide) rfl dX12_drive_166 ?_
  refine k_goto (tgt := 9) B dX12_drive_169 (by decide) ?_
  refine k_sub [1, 2, 0] rfl ?_
  exact kk
theorem bX12_drive_172 (B : Bd p s m args meth c cX12_drive 4 (wsOf yX12_drive cX12_drive 4 (some .int)) RX12 w (some .int) "drive") {v0 : Nat} {v1 : Int32} {Q : State → Prop}  (kk : K p l e rX12_drive s m args below meth c 4 w 0 0 Q S 174 [(0, .ref v0), (1, .int v1), (2, .int 0)] []) : K p l e rX12_drive s m args below meth c 4 w 0 0 Q S 172 [(0, .ref v0), (1, .int v1)] [] := by
  refine k_iconst (v := 0) B (by decide) dX12_drive_172 ?_
  refine k_istore_n (lst' := [(2, .int 0), (0, .ref v0), (1, .int v1)]) B rfl (by decide) rfl dX12_drive_173 ?_
  refine k_sub [1, 2, 0] rfl ?_
  exact kk
theorem bX12_drive_174 (B : Bd p s m args meth c cX12_drive 4 (wsOf yX12_drive cX12_drive 4 (some .int)) RX12 w (some .int) "drive") {v0 : Nat} {v1 : Int32} {v2 : Int32} {x1 : Nat} {Q : State → Prop} (h1 : kd S v0 = 14) (h2 : gP S 846 v0 = some x1) (h3 : kd S x1 = 15) (kt : (gI S 913 x1) ≤ v2 → K p l e rX12_drive s m args below meth c 4 w 0 0 Q S 309 [(0, .ref v0), (1, .int v1)] []) (kf : ¬ (gI S 913 x1) ≤ v2 → K p l e rX12_drive s m args below meth c 4 w 0 0 Q S 185 [(0, .ref v0), (1, .int v1), (2, .int v2)] []) : K p l e rX12_drive s m args below meth c 4 w 0 0 Q S 174 [(0, .ref v0), (1, .int v1), (2, .int v2)] [] := by
  refine k_iload_n B 2 rfl rfl dX12_drive_174 ?_
  refine k_aload_n B 0 rfl rfl dX12_drive_175 ?_
  refine k_getP (f := 846) (r := gP S 846 v0) B 13 14 rfl (by decide) rfl (by decide) rfl rfl (fun w h => in_of (uw_13 w h)) (in_of qfRX12_3) dX12_drive_176 h1 rfl ?_
  rw [h2]; change K _ _ _ _ _ _ _ _ _ _ _ _ _ _ _ _ _ _ (.ref x1 :: _)
  refine k_getIN (f := 913) (v := gI S 913 x1) B 14 17 rfl (by decide) rfl (by decide) rfl rfl (fun w h => in_of (uw_14 w h)) "LastMileModel" (nzF_18 B.2.2.2.1.2.2.2.1) dX12_drive_179 h3 rfl ?_
  refine k_icmp_ge (tgt := 309) B dX12_drive_182 (by decide) (fun c => ?_) (fun c => ?_)
  · refine k_sub [0, 1] rfl ?_
    exact kt c
  · exact kf c
theorem bX12_drive_185 (B : Bd p s m args meth c cX12_drive 4 (wsOf yX12_drive cX12_drive 4 (some .int)) RX12 w (some .int) "drive") {v0 : Nat} {v1 : Int32} {v2 : Int32} {x1 : Nat} {Q : State → Prop} (h1 : kd S v0 = 14) (h2 : gP S 834 v0 = some x1) (h3 : kd S x1 = 21) (h4 : vp_in v2 (ln S x1)) (kt : ((rI S x1) v2.toNatClampNeg) = 2 → K p l e rX12_drive s m args below meth c 4 w 0 0 Q S 198 [(0, .ref v0), (1, .int v1), (2, .int v2)] []) (kf : ¬ ((rI S x1) v2.toNatClampNeg) = 2 → K p l e rX12_drive s m args below meth c 4 w 0 0 Q S 195 [(0, .ref v0), (1, .int v1), (2, .int v2)] []) : K p l e rX12_drive s m args below meth c 4 w 0 0 Q S 185 [(0, .ref v0), (1, .int v1), (2, .int v2)] [] := by
  refine k_aload_n B 0 rfl rfl dX12_drive_185 ?_
  refine k_getP (f := 834) (r := gP S 834 v0) B 13 2 rfl (by decide) rfl (by decide) rfl rfl (fun w h => in_of (uw_13 w h)) (in_of qfRX12_15) dX12_drive_186 h1 rfl ?_
  rw [h2]; change K _ _ _ _ _ _ _ _ _ _ _ _ _ _ _ _ _ _ (.ref x1 :: _)
  refine k_iload_n B 2 rfl rfl dX12_drive_189 ?_
  refine k_iald (v := (rI S x1) v2.toNatClampNeg) B dX12_drive_190 h3 h4 rfl ?_
  refine k_iconst (v := 2) B (by decide) dX12_drive_191 ?_
  refine k_icmp_eq (tgt := 198) B dX12_drive_192 (by decide) (fun c => ?_) (fun c => ?_)
  · exact kt c
  · exact kf c
theorem bX12_drive_195 (B : Bd p s m args meth c cX12_drive 4 (wsOf yX12_drive cX12_drive 4 (some .int)) RX12 w (some .int) "drive") {v0 : Nat} {v1 : Int32} {v2 : Int32} {Q : State → Prop}  (kk : K p l e rX12_drive s m args below meth c 4 w 0 0 Q S 303 [(0, .ref v0), (1, .int v1), (2, .int v2)] []) : K p l e rX12_drive s m args below meth c 4 w 0 0 Q S 195 [(0, .ref v0), (1, .int v1), (2, .int v2)] [] := by
  refine k_goto (tgt := 303) B dX12_drive_195 (by decide) ?_
  exact kk
theorem bX12_drive_198 (B : Bd p s m args meth c cX12_drive 4 (wsOf yX12_drive cX12_drive 4 (some .int)) RX12 w (some .int) "drive") {v0 : Nat} {v1 : Int32} {v2 : Int32} {x1 : Nat} {Q : State → Prop} (h1 : kd S v0 = 14) (h2 : gP S 838 v0 = some x1) (h3 : kd S x1 = 21) (h4 : vp_in v2 (ln S x1)) (kk : K p l e rX12_drive s m args below meth c 4 w 0 0 Q (sRI S x1 (va_up (rI S x1) v2.toNatClampNeg (((rI S x1) v2.toNatClampNeg) + 1))) 208 [(0, .ref v0), (1, .int v1), (2, .int v2)] []) : K p l e rX12_drive s m args below meth c 4 w 0 0 Q S 198 [(0, .ref v0), (1, .int v1), (2, .int v2)] [] := by
  refine k_aload_n B 0 rfl rfl dX12_drive_198 ?_
  refine k_getP (f := 838) (r := gP S 838 v0) B 13 6 rfl (by decide) rfl (by decide) rfl rfl (fun w h => in_of (uw_13 w h)) (in_of qfRX12_28) dX12_drive_199 h1 rfl ?_
  rw [h2]; change K _ _ _ _ _ _ _ _ _ _ _ _ _ _ _ _ _ _ (.ref x1 :: _)
  refine k_iload_n B 2 rfl rfl dX12_drive_202 ?_
  refine k_dup2 B rfl rfl dX12_drive_203 ?_
  refine k_iald (v := (rI S x1) v2.toNatClampNeg) B dX12_drive_204 h3 h4 rfl ?_
  refine k_iconst (v := 1) B (by decide) dX12_drive_205 ?_
  refine k_iadd B dX12_drive_206 ?_
  refine k_iast (g := rI S x1) (S' := sRI S x1 (va_up (rI S x1) v2.toNatClampNeg (((rI S x1) v2.toNatClampNeg) + 1))) B dX12_drive_207 h3 h4 rfl rfl ?_
  exact kk
theorem bX12_drive_208 (B : Bd p s m args meth c cX12_drive 4 (wsOf yX12_drive cX12_drive 4 (some .int)) RX12 w (some .int) "drive") {v0 : Nat} {v1 : Int32} {v2 : Int32} {x1 : Nat} {x2 : Nat} {x3 : Nat} {x4 : Nat} {x5 : Nat} {x6 : Nat} {x7 : Nat} {x8 : Nat} {x9 : Nat} {x10 : Nat} {x11 : Nat} {x12 : Nat} {x13 : Nat} {x14 : Nat} {post : Int32 → St → Prop} {Q : State → Prop} (h1 : kd S v0 = 14) (h2 : gP S 846 v0 = some x1) (h3 : kd S x1 = 15) (h4 : gP S 901 x1 = some x2) (h5 : gP S 846 v0 = some x3) (h6 : kd S x3 = 15) (h7 : gP S 916 x3 = some x4) (h8 : kd S x4 = 21) (h9 : vp_in v2 (ln S x4)) (h10 : kd S x2 = 21) (h11 : vp_in ((rI S x4) v2.toNatClampNeg) (ln S x2)) (h12 : gP S 846 v0 = some x5) (h13 : kd S x5 = 15) (h14 : gP S 902 x5 = some x6) (h15 : gP S 846 v0 = some x7) (h16 : kd S x7 = 15) (h17 : gP S 916 x7 = some x8) (h18 : kd S x8 = 21) (h19 : vp_in v2 (ln S x8)) (h20 : kd S x6 = 21) (h21 : vp_in ((rI S x8) v2.toNatClampNeg) (ln S x6)) (h22 : gP S 846 v0 = some x9) (h23 : kd S x9 = 15) (h24 : gP S 907 x9 = some x10) (h25 : gP S 836 v0 = some x11) (h26 : kd S x11 = 21) (h27 : vp_in v2 (ln S x11)) (h28 : kd S x10 = 21) (h29 : vp_in ((rI S x11) v2.toNatClampNeg) (ln S x10)) (h30 : gP S 846 v0 = some x12) (h31 : kd S x12 = 15) (h32 : gP S 908 x12 = some x13) (h33 : gP S 836 v0 = some x14) (h34 : kd S x14 = 21) (h35 : vp_in v2 (ln S x14)) (h36 : kd S x13 = 21) (h37 : vp_in ((rI S x14) v2.toNatClampNeg) (ln S x13)) (hc : ConI l yX13_apart (wsOf yX13_apart cX13_apart 4 (some .int)) rX13_apart w S [.int ((rI S x2) ((rI S x4) v2.toNatClampNeg).toNatClampNeg), .int ((rI S x6) ((rI S x8) v2.toNatClampNeg).toNatClampNeg), .int ((rI S x10) ((rI S x11) v2.toNatClampNeg).toNatClampNeg), .int ((rI S x13) ((rI S x14) v2.toNatClampNeg).toNatClampNeg)] post) (kk : ∀ (r : Int32) (S' : St), post r S' → K p l e rX12_drive s m args below meth c 4 w 0 0 Q S' 273 [(0, .ref v0), (1, .int v1), (2, .int v2)] [.int r]) : K p l e rX12_drive s m args below meth c 4 w 0 0 Q S 208 [(0, .ref v0), (1, .int v1), (2, .int v2)] [] := by
  refine k_aload_n B 0 rfl rfl dX12_drive_208 ?_
  refine k_getP (f := 846) (r := gP S 846 v0) B 13 14 rfl (by decide) rfl (by decide) rfl rfl (fun w h => in_of (uw_13 w h)) (in_of qfRX12_3) dX12_drive_209 h1 rfl ?_
  rw [h2]; change K _ _ _ _ _ _ _ _ _ _ _ _ _ _ _ _ _ _ (.ref x1 :: _)
  refine k_getPN (f := 901) (r := gP S 901 x1) B 14 5 rfl (by decide) rfl (by decide) rfl rfl (fun w h => in_of (uw_14 w h)) "LastMileModel" (nzF_9 B.2.2.2.1.2.2.2.1) dX12_drive_212 h3 rfl ?_
  rw [h4]; change K _ _ _ _ _ _ _ _ _ _ _ _ _ _ _ _ _ _ (.ref x2 :: _)
  refine k_aload_n B 0 rfl rfl dX12_drive_215 ?_
  refine k_getP (f := 846) (r := gP S 846 v0) B 13 14 rfl (by decide) rfl (by decide) rfl rfl (fun w h => in_of (uw_13 w h)) (in_of qfRX12_3) dX12_drive_216 h1 rfl ?_
  rw [h5]; change K _ _ _ _ _ _ _ _ _ _ _ _ _ _ _ _ _ _ (.ref x3 :: _)
  refine k_getPN (f := 916) (r := gP S 916 x3) B 14 20 rfl (by decide) rfl (by decide) rfl rfl (fun w h => in_of (uw_14 w h)) "LastMileModel" (nzF_22 B.2.2.2.1.2.2.2.1) dX12_drive_219 h6 rfl ?_
  rw [h7]; change K _ _ _ _ _ _ _ _ _ _ _ _ _ _ _ _ _ _ (.ref x4 :: _)
  refine k_iload_n B 2 rfl rfl dX12_drive_222 ?_
  refine k_iald (v := (rI S x4) v2.toNatClampNeg) B dX12_drive_223 h8 h9 rfl ?_
  refine k_iald (v := (rI S x2) ((rI S x4) v2.toNatClampNeg).toNatClampNeg) B dX12_drive_224 h10 h11 rfl ?_
  refine k_aload_n B 0 rfl rfl dX12_drive_225 ?_
  refine k_getP (f := 846) (r := gP S 846 v0) B 13 14 rfl (by decide) rfl (by decide) rfl rfl (fun w h => in_of (uw_13 w h)) (in_of qfRX12_3) dX12_drive_226 h1 rfl ?_
  rw [h12]; change K _ _ _ _ _ _ _ _ _ _ _ _ _ _ _ _ _ _ (.ref x5 :: _)
  refine k_getPN (f := 902) (r := gP S 902 x5) B 14 6 rfl (by decide) rfl (by decide) rfl rfl (fun w h => in_of (uw_14 w h)) "LastMileModel" (nzF_10 B.2.2.2.1.2.2.2.1) dX12_drive_229 h13 rfl ?_
  rw [h14]; change K _ _ _ _ _ _ _ _ _ _ _ _ _ _ _ _ _ _ (.ref x6 :: _)
  refine k_aload_n B 0 rfl rfl dX12_drive_232 ?_
  refine k_getP (f := 846) (r := gP S 846 v0) B 13 14 rfl (by decide) rfl (by decide) rfl rfl (fun w h => in_of (uw_13 w h)) (in_of qfRX12_3) dX12_drive_233 h1 rfl ?_
  rw [h15]; change K _ _ _ _ _ _ _ _ _ _ _ _ _ _ _ _ _ _ (.ref x7 :: _)
  refine k_getPN (f := 916) (r := gP S 916 x7) B 14 20 rfl (by decide) rfl (by decide) rfl rfl (fun w h => in_of (uw_14 w h)) "LastMileModel" (nzF_22 B.2.2.2.1.2.2.2.1) dX12_drive_236 h16 rfl ?_
  rw [h17]; change K _ _ _ _ _ _ _ _ _ _ _ _ _ _ _ _ _ _ (.ref x8 :: _)
  refine k_iload_n B 2 rfl rfl dX12_drive_239 ?_
  refine k_iald (v := (rI S x8) v2.toNatClampNeg) B dX12_drive_240 h18 h19 rfl ?_
  refine k_iald (v := (rI S x6) ((rI S x8) v2.toNatClampNeg).toNatClampNeg) B dX12_drive_241 h20 h21 rfl ?_
  refine k_aload_n B 0 rfl rfl dX12_drive_242 ?_
  refine k_getP (f := 846) (r := gP S 846 v0) B 13 14 rfl (by decide) rfl (by decide) rfl rfl (fun w h => in_of (uw_13 w h)) (in_of qfRX12_3) dX12_drive_243 h1 rfl ?_
  rw [h22]; change K _ _ _ _ _ _ _ _ _ _ _ _ _ _ _ _ _ _ (.ref x9 :: _)
  refine k_getPN (f := 907) (r := gP S 907 x9) B 14 11 rfl (by decide) rfl (by decide) rfl rfl (fun w h => in_of (uw_14 w h)) "LastMileModel" (nzF_11 B.2.2.2.1.2.2.2.1) dX12_drive_246 h23 rfl ?_
  rw [h24]; change K _ _ _ _ _ _ _ _ _ _ _ _ _ _ _ _ _ _ (.ref x10 :: _)
  refine k_aload_n B 0 rfl rfl dX12_drive_249 ?_
  refine k_getP (f := 836) (r := gP S 836 v0) B 13 4 rfl (by decide) rfl (by decide) rfl rfl (fun w h => in_of (uw_13 w h)) (in_of qfRX12_22) dX12_drive_250 h1 rfl ?_
  rw [h25]; change K _ _ _ _ _ _ _ _ _ _ _ _ _ _ _ _ _ _ (.ref x11 :: _)
  refine k_iload_n B 2 rfl rfl dX12_drive_253 ?_
  refine k_iald (v := (rI S x11) v2.toNatClampNeg) B dX12_drive_254 h26 h27 rfl ?_
  refine k_iald (v := (rI S x10) ((rI S x11) v2.toNatClampNeg).toNatClampNeg) B dX12_drive_255 h28 h29 rfl ?_
  refine k_aload_n B 0 rfl rfl dX12_drive_256 ?_
  refine k_getP (f := 846) (r := gP S 846 v0) B 13 14 rfl (by decide) rfl (by decide) rfl rfl (fun w h => in_of (uw_13 w h)) (in_of qfRX12_3) dX12_drive_257 h1 rfl ?_
  rw [h30]; change K _ _ _ _ _ _ _ _ _ _ _ _ _ _ _ _ _ _ (.ref x12 :: _)
  refine k_getPN (f := 908) (r := gP S 908 x12) B 14 12 rfl (by decide) rfl (by decide) rfl rfl (fun w h => in_of (uw_14 w h)) "LastMileModel" (nzF_12 B.2.2.2.1.2.2.2.1) dX12_drive_260 h31 rfl ?_
  rw [h32]; change K _ _ _ _ _ _ _ _ _ _ _ _ _ _ _ _ _ _ (.ref x13 :: _)
  refine k_aload_n B 0 rfl rfl dX12_drive_263 ?_
  refine k_getP (f := 836) (r := gP S 836 v0) B 13 4 rfl (by decide) rfl (by decide) rfl rfl (fun w h => in_of (uw_13 w h)) (in_of qfRX12_22) dX12_drive_264 h1 rfl ?_
  rw [h33]; change K _ _ _ _ _ _ _ _ _ _ _ _ _ _ _ _ _ _ (.ref x14 :: _)
  refine k_iload_n B 2 rfl rfl dX12_drive_267 ?_
  refine k_iald (v := (rI S x14) v2.toNatClampNeg) B dX12_drive_268 h34 h35 rfl ?_
  refine k_iald (v := (rI S x13) ((rI S x14) v2.toNatClampNeg).toNatClampNeg) B dX12_drive_269 h36 h37 rfl ?_
  refine callSN_I (st := []) B [.int ((rI S x2) ((rI S x4) v2.toNatClampNeg).toNatClampNeg), .int ((rI S x6) ((rI S x8) v2.toNatClampNeg).toNatClampNeg), .int ((rI S x10) ((rI S x11) v2.toNatClampNeg).toNatClampNeg), .int ((rI S x13) ((rI S x14) v2.toNatClampNeg).toNatClampNeg)] (hc) ⟨va_cnB 4 B.1.2.2.2.2 (gB qcX13_apart) rfl rfl rfl (nzM_4 B.2.2.2.1.2.2.2.1) (B.1.2.2.2.2 _ (in_of qzRX13)) (by decide +kernel) ⟨Nat.le_of_ble_eq_true rfl, Nat.le_of_ble_eq_true rfl⟩, B.1.2.2.2.2 _ (in_of qsX13_apart), trivial⟩ rfl (Nat.le_of_ble_eq_true rfl) rfl dX12_drive_270 ⟨Nat.le_of_ble_eq_true rfl, Nat.le_of_ble_eq_true rfl⟩ (fun r S' hp => ?_)
  exact kk r S' hp
theorem bX12_drive_273 (B : Bd p s m args meth c cX12_drive 4 (wsOf yX12_drive cX12_drive 4 (some .int)) RX12 w (some .int) "drive") {v0 : Nat} {v1 : Int32} {v2 : Int32} {t0 : Int32} {Q : State → Prop}  (kt : 10 < t0 → K p l e rX12_drive s m args below meth c 4 w 0 0 Q S 287 [(0, .ref v0), (1, .int v1), (2, .int v2)] []) (kf : ¬ 10 < t0 → K p l e rX12_drive s m args below meth c 4 w 0 0 Q S 278 [(0, .ref v0), (1, .int v1), (2, .int v2)] []) : K p l e rX12_drive s m args below meth c 4 w 0 0 Q S 273 [(0, .ref v0), (1, .int v1), (2, .int v2)] [.int t0] := by
  refine k_bipush (v := 10) B (by decide) dX12_drive_273 ?_
  refine k_icmp_gt (tgt := 287) B dX12_drive_275 (by decide) (fun c => ?_) (fun c => ?_)
  · exact kt c
  · exact kf c
theorem bX12_drive_278 (B : Bd p s m args meth c cX12_drive 4 (wsOf yX12_drive cX12_drive 4 (some .int)) RX12 w (some .int) "drive") {v0 : Nat} {v1 : Int32} {v2 : Int32} {post : St → Prop} {Q : State → Prop} (hc : ConV l yX12_open (wsOf yX12_open cX12_open 3 none) rX12_open w S [.ref v0, .int v2, .int 1] post) (h1 : kd S v0 = 14) (kk : ∀ (S' : St), post S' → K p l e rX12_drive s m args below meth c 4 w 0 0 Q S' 284 [(0, .ref v0), (1, .int v1), (2, .int v2)] []) : K p l e rX12_drive s m args below meth c 4 w 0 0 Q S 278 [(0, .ref v0), (1, .int v1), (2, .int v2)] [] := by
  refine k_aload_n B 0 rfl rfl dX12_drive_278 ?_
  refine k_iload_n B 2 rfl rfl dX12_drive_279 ?_
  refine k_iconst (v := 1) B (by decide) dX12_drive_280 ?_
  refine callV_V (st := []) B [.int v2, .int 1] (hc) (cwV 2 B.1.2.2.2.2 (gV qlRX12_153 qiX12_open qeX12_open qzRX12 qcX12_open) rfl rfl rfl (by decide +kernel) ⟨Nat.le_of_ble_eq_true rfl, Nat.le_of_ble_eq_true rfl⟩) rfl rfl (by decide) h1 (Nat.le_of_ble_eq_true rfl) rfl dX12_drive_281 ⟨Nat.le_of_ble_eq_true rfl, Nat.le_of_ble_eq_true rfl⟩ (fun S' hp => ?_)
  exact kk S' hp
theorem bX12_drive_284 (B : Bd p s m args meth c cX12_drive 4 (wsOf yX12_drive cX12_drive 4 (some .int)) RX12 w (some .int) "drive") {v0 : Nat} {v1 : Int32} {v2 : Int32} {Q : State → Prop}  (kk : K p l e rX12_drive s m args below meth c 4 w 0 0 Q S 303 [(0, .ref v0), (1, .int v1), (2, .int v2)] []) : K p l e rX12_drive s m args below meth c 4 w 0 0 Q S 284 [(0, .ref v0), (1, .int v1), (2, .int v2)] [] := by
  refine k_goto (tgt := 303) B dX12_drive_284 (by decide) ?_
  exact kk
theorem bX12_drive_287 (B : Bd p s m args meth c cX12_drive 4 (wsOf yX12_drive cX12_drive 4 (some .int)) RX12 w (some .int) "drive") {v0 : Nat} {v1 : Int32} {v2 : Int32} {x1 : Nat} {Q : State → Prop} (h1 : kd S v0 = 14) (h2 : gP S 838 v0 = some x1) (h3 : kd S x1 = 21) (h4 : vp_in v2 (ln S x1)) (kt : ¬ ((rI S x1) v2.toNatClampNeg) = 3 → K p l e rX12_drive s m args below meth c 4 w 0 0 Q S 303 [(0, .ref v0), (1, .int v1), (2, .int v2)] []) (kf : ((rI S x1) v2.toNatClampNeg) = 3 → K p l e rX12_drive s m args below meth c 4 w 0 0 Q S 297 [(0, .ref v0), (1, .int v1), (2, .int v2)] []) : K p l e rX12_drive s m args below meth c 4 w 0 0 Q S 287 [(0, .ref v0), (1, .int v1), (2, .int v2)] [] := by
  refine k_aload_n B 0 rfl rfl dX12_drive_287 ?_
  refine k_getP (f := 838) (r := gP S 838 v0) B 13 6 rfl (by decide) rfl (by decide) rfl rfl (fun w h => in_of (uw_13 w h)) (in_of qfRX12_28) dX12_drive_288 h1 rfl ?_
  rw [h2]; change K _ _ _ _ _ _ _ _ _ _ _ _ _ _ _ _ _ _ (.ref x1 :: _)
  refine k_iload_n B 2 rfl rfl dX12_drive_291 ?_
  refine k_iald (v := (rI S x1) v2.toNatClampNeg) B dX12_drive_292 h3 h4 rfl ?_
  refine k_iconst (v := 3) B (by decide) dX12_drive_293 ?_
  refine k_icmp_ne (tgt := 303) B dX12_drive_294 (by decide) (fun c => ?_) (fun c => ?_)
  · exact kt c
  · exact kf c
theorem bX12_drive_297 (B : Bd p s m args meth c cX12_drive 4 (wsOf yX12_drive cX12_drive 4 (some .int)) RX12 w (some .int) "drive") {v0 : Nat} {v1 : Int32} {v2 : Int32} {post : St → Prop} {Q : State → Prop} (hc : ConV l yX12_open (wsOf yX12_open cX12_open 3 none) rX12_open w S [.ref v0, .int v2, .int 4] post) (h1 : kd S v0 = 14) (kk : ∀ (S' : St), post S' → K p l e rX12_drive s m args below meth c 4 w 0 0 Q S' 303 [(0, .ref v0), (1, .int v1), (2, .int v2)] []) : K p l e rX12_drive s m args below meth c 4 w 0 0 Q S 297 [(0, .ref v0), (1, .int v1), (2, .int v2)] [] := by
  refine k_aload_n B 0 rfl rfl dX12_drive_297 ?_
  refine k_iload_n B 2 rfl rfl dX12_drive_298 ?_
  refine k_iconst (v := 4) B (by decide) dX12_drive_299 ?_
  refine callV_V (st := []) B [.int v2, .int 4] (hc) (cwV 2 B.1.2.2.2.2 (gV qlRX12_153 qiX12_open qeX12_open qzRX12 qcX12_open) rfl rfl rfl (by decide +kernel) ⟨Nat.le_of_ble_eq_true rfl, Nat.le_of_ble_eq_true rfl⟩) rfl rfl (by decide) h1 (Nat.le_of_ble_eq_true rfl) rfl dX12_drive_300 ⟨Nat.le_of_ble_eq_true rfl, Nat.le_of_ble_eq_true rfl⟩ (fun S' hp => ?_)
  exact kk S' hp
theorem bX12_drive_303 (B : Bd p s m args meth c cX12_drive 4 (wsOf yX12_drive cX12_drive 4 (some .int)) RX12 w (some .int) "drive") {v0 : Nat} {v1 : Int32} {v2 : Int32} {Q : State → Prop}  (kk : K p l e rX12_drive s m args below meth c 4 w 0 0 Q S 174 [(0, .ref v0), (1, .int v1), (2, .int (v2 + 1))] []) : K p l e rX12_drive s m args below meth c 4 w 0 0 Q S 303 [(0, .ref v0), (1, .int v1), (2, .int v2)] [] := by
  refine k_iinc (v := v2 + 1) (lst' := [(2, .int (v2 + 1)), (0, .ref v0), (1, .int v1)]) B 2 rfl rfl (by decide) rfl dX12_drive_303 ?_
  refine k_goto (tgt := 174) B dX12_drive_306 (by decide) ?_
  refine k_sub [1, 2, 0] rfl ?_
  exact kk
theorem bX12_drive_309 (B : Bd p s m args meth c cX12_drive 4 (wsOf yX12_drive cX12_drive 4 (some .int)) RX12 w (some .int) "drive") {v0 : Nat} {v1 : Int32} {post : Int32 → St → Prop} (h1 : kd S v0 = 14) (hq : post v1 (sI S 832 v0 ((gI S 832 v0) + 1))) : K p l e rX12_drive s m args below meth c 4 w 0 0 (MQ below (va_Qi post (fun S' t => Hd w S' t.heap) (wA w)) args s 0 0 (wA w)) S 309 [(0, .ref v0), (1, .int v1)] [] := by
  refine k_aload_n B 0 rfl rfl dX12_drive_309 ?_
  refine k_dup B rfl dX12_drive_310 ?_
  refine k_getI (f := 832) (v := gI S 832 v0) B 13 0 rfl (by decide) rfl (by decide) rfl rfl (fun w h => in_of (uw_13 w h)) (in_of qfRX12_46) dX12_drive_311 h1 rfl ?_
  refine k_iconst (v := 1) B (by decide) dX12_drive_314 ?_
  refine k_iadd B dX12_drive_315 ?_
  refine k_putI (f := 832) B 13 0 rfl (by decide) rfl (by decide) rfl rfl (fun w h => in_of (uw_13 w h)) (in_of qfRX12_46) tyX12 tyX12_ok nmX12 rfl (tyX12_ok 0 (by decide)) dX12_drive_316 h1 ?_
  refine k_iload_n B 1 rfl rfl dX12_drive_319 ?_
  exact ret_I B rfl dX12_drive_320 (hq)
theorem bX12_how_0 (B : Bd p s m args meth c cX12_how 4 (wsOf yX12_how cX12_how 4 (some .int)) RX12 w (some .int) "how") {v0 : Nat} {v1 : Int32} {Q : State → Prop}  (kk : K p l e rX12_how s m args below meth c 4 w 0 0 Q S 4 [(0, .ref v0), (1, .int v1), (2, .int 0), (3, .int 0)] []) : K p l e rX12_how s m args below meth c 4 w 0 0 Q S 0 [(0, .ref v0), (1, .int v1)] [] := by
  refine k_iconst (v := 0) B (by decide) dX12_how_0 ?_
  refine k_istore_n (lst' := [(2, .int 0), (0, .ref v0), (1, .int v1)]) B rfl (by decide) rfl dX12_how_1 ?_
  refine k_iconst (v := 0) B (by decide) dX12_how_2 ?_
  refine k_istore_n (lst' := [(3, .int 0), (2, .int 0), (0, .ref v0), (1, .int v1)]) B rfl (by decide) rfl dX12_how_3 ?_
  refine k_sub [2, 3, 1, 0] rfl ?_
  exact kk
theorem bX12_how_4 (B : Bd p s m args meth c cX12_how 4 (wsOf yX12_how cX12_how 4 (some .int)) RX12 w (some .int) "how") {v0 : Nat} {v1 : Int32} {v2 : Int32} {v3 : Int32} {x1 : Nat} {Q : State → Prop} (h1 : kd S v0 = 14) (h2 : gP S 846 v0 = some x1) (h3 : kd S x1 = 15) (kt : (gI S 913 x1) ≤ v3 → K p l e rX12_how s m args below meth c 4 w 0 0 Q S 39 [(2, .int v2)] []) (kf : ¬ (gI S 913 x1) ≤ v3 → K p l e rX12_how s m args below meth c 4 w 0 0 Q S 15 [(0, .ref v0), (1, .int v1), (2, .int v2), (3, .int v3)] []) : K p l e rX12_how s m args below meth c 4 w 0 0 Q S 4 [(0, .ref v0), (1, .int v1), (2, .int v2), (3, .int v3)] [] := by
  refine k_iload_n B 3 rfl rfl dX12_how_4 ?_
  refine k_aload_n B 0 rfl rfl dX12_how_5 ?_
  refine k_getP (f := 846) (r := gP S 846 v0) B 13 14 rfl (by decide) rfl (by decide) rfl rfl (fun w h => in_of (uw_13 w h)) (in_of qfRX12_3) dX12_how_6 h1 rfl ?_
  rw [h2]; change K _ _ _ _ _ _ _ _ _ _ _ _ _ _ _ _ _ _ (.ref x1 :: _)
  refine k_getIN (f := 913) (v := gI S 913 x1) B 14 17 rfl (by decide) rfl (by decide) rfl rfl (fun w h => in_of (uw_14 w h)) "LastMileModel" (nzF_18 B.2.2.2.1.2.2.2.1) dX12_how_9 h3 rfl ?_
  refine k_icmp_ge (tgt := 39) B dX12_how_12 (by decide) (fun c => ?_) (fun c => ?_)
  · refine k_sub [2] rfl ?_
    exact kt c
  · exact kf c
theorem bX12_how_15 (B : Bd p s m args meth c cX12_how 4 (wsOf yX12_how cX12_how 4 (some .int)) RX12 w (some .int) "how") {v0 : Nat} {v1 : Int32} {v2 : Int32} {v3 : Int32} {x1 : Nat} {Q : State → Prop} (h1 : kd S v0 = 14) (h2 : gP S 834 v0 = some x1) (h3 : kd S x1 = 21) (h4 : vp_in v3 (ln S x1)) (kt : ¬ ((rI S x1) v3.toNatClampNeg) = v1 → K p l e rX12_how s m args below meth c 4 w 0 0 Q S 30 [(0, .ref v0), (1, .int v1), (3, .int v3)] [.int v2]) (kf : ((rI S x1) v3.toNatClampNeg) = v1 → K p l e rX12_how s m args below meth c 4 w 0 0 Q S 26 [(0, .ref v0), (1, .int v1), (3, .int v3)] [.int v2]) : K p l e rX12_how s m args below meth c 4 w 0 0 Q S 15 [(0, .ref v0), (1, .int v1), (2, .int v2), (3, .int v3)] [] := by
  refine k_iload_n B 2 rfl rfl dX12_how_15 ?_
  refine k_aload_n B 0 rfl rfl dX12_how_16 ?_
  refine k_getP (f := 834) (r := gP S 834 v0) B 13 2 rfl (by decide) rfl (by decide) rfl rfl (fun w h => in_of (uw_13 w h)) (in_of qfRX12_15) dX12_how_17 h1 rfl ?_
  rw [h2]; change K _ _ _ _ _ _ _ _ _ _ _ _ _ _ _ _ _ _ (.ref x1 :: _)
  refine k_iload_n B 3 rfl rfl dX12_how_20 ?_
  refine k_iald (v := (rI S x1) v3.toNatClampNeg) B dX12_how_21 h3 h4 rfl ?_
  refine k_iload_n B 1 rfl rfl dX12_how_22 ?_
  refine k_icmp_ne (tgt := 30) B dX12_how_23 (by decide) (fun c => ?_) (fun c => ?_)
  · refine k_sub [0, 1, 3] rfl ?_
    exact kt c
  · refine k_sub [0, 1, 3] rfl ?_
    exact kf c
theorem bX12_how_26 (B : Bd p s m args meth c cX12_how 4 (wsOf yX12_how cX12_how 4 (some .int)) RX12 w (some .int) "how") {v0 : Nat} {v1 : Int32} {v3 : Int32} {t0 : Int32} {Q : State → Prop}  (kk : K p l e rX12_how s m args below meth c 4 w 0 0 Q S 31 [(0, .ref v0), (1, .int v1), (3, .int v3)] [.int 1, .int t0]) : K p l e rX12_how s m args below meth c 4 w 0 0 Q S 26 [(0, .ref v0), (1, .int v1), (3, .int v3)] [.int t0] := by
  refine k_iconst (v := 1) B (by decide) dX12_how_26 ?_
  refine k_goto (tgt := 31) B dX12_how_27 (by decide) ?_
  exact kk
theorem bX12_how_30 (B : Bd p s m args meth c cX12_how 4 (wsOf yX12_how cX12_how 4 (some .int)) RX12 w (some .int) "how") {v0 : Nat} {v1 : Int32} {v3 : Int32} {t0 : Int32} {Q : State → Prop}  (kk : K p l e rX12_how s m args below meth c 4 w 0 0 Q S 31 [(0, .ref v0), (1, .int v1), (3, .int v3)] [.int 0, .int t0]) : K p l e rX12_how s m args below meth c 4 w 0 0 Q S 30 [(0, .ref v0), (1, .int v1), (3, .int v3)] [.int t0] := by
  refine k_iconst (v := 0) B (by decide) dX12_how_30 ?_
  exact kk
theorem bX12_how_31 (B : Bd p s m args meth c cX12_how 4 (wsOf yX12_how cX12_how 4 (some .int)) RX12 w (some .int) "how") {v0 : Nat} {v1 : Int32} {v3 : Int32} {t0 : Int32} {t1 : Int32} {Q : State → Prop}  (kk : K p l e rX12_how s m args below meth c 4 w 0 0 Q S 4 [(0, .ref v0), (1, .int v1), (2, .int (t0 + t1)), (3, .int (v3 + 1))] []) : K p l e rX12_how s m args below meth c 4 w 0 0 Q S 31 [(0, .ref v0), (1, .int v1), (3, .int v3)] [.int t1, .int t0] := by
  refine k_iadd B dX12_how_31 ?_
  refine k_istore_n (lst' := [(2, .int (t0 + t1)), (0, .ref v0), (1, .int v1), (3, .int v3)]) B rfl (by decide) rfl dX12_how_32 ?_
  refine k_iinc (v := v3 + 1) (lst' := [(3, .int (v3 + 1)), (2, .int (t0 + t1)), (0, .ref v0), (1, .int v1)]) B 3 rfl rfl (by decide) rfl dX12_how_33 ?_
  refine k_goto (tgt := 4) B dX12_how_36 (by decide) ?_
  refine k_sub [2, 3, 1, 0] rfl ?_
  exact kk
theorem bX12_how_39 (B : Bd p s m args meth c cX12_how 4 (wsOf yX12_how cX12_how 4 (some .int)) RX12 w (some .int) "how") {v2 : Int32} {post : Int32 → St → Prop}  (hq : post v2 S) : K p l e rX12_how s m args below meth c 4 w 0 0 (MQ below (va_Qi post (fun S' t => Hd w S' t.heap) (wA w)) args s 0 0 (wA w)) S 39 [(2, .int v2)] [] := by
  refine k_iload_n B 0 rfl rfl dX12_how_39 ?_
  exact ret_I B rfl dX12_how_40 (hq)
end BL
