theorem dX13_init_0 : decode cX13_init 0 = .ok (.aload_n 0, 1) := by decide +kernel
theorem dX13_init_1 : decode cX13_init 1 = .ok (.invokespecial 1, 3) := by decide +kernel
theorem dX13_init_4 : decode cX13_init 4 = .ok (.aload_n 0, 1) := by decide +kernel
theorem dX13_init_5 : decode cX13_init 5 = .ok (.bipush 24, 2) := by decide +kernel
theorem dX13_init_7 : decode cX13_init 7 = .ok (.newarray .int, 2) := by decide +kernel
theorem dX13_init_9 : decode cX13_init 9 = .ok (.putfield 7, 3) := by decide +kernel
theorem dX13_init_12 : decode cX13_init 12 = .ok (.aload_n 0, 1) := by decide +kernel
theorem dX13_init_13 : decode cX13_init 13 = .ok (.bipush 30, 2) := by decide +kernel
theorem dX13_init_15 : decode cX13_init 15 = .ok (.putfield 13, 3) := by decide +kernel
theorem dX13_init_18 : decode cX13_init 18 = .ok (.aload_n 0, 1) := by decide +kernel
theorem dX13_init_19 : decode cX13_init 19 = .ok (.bipush 30, 2) := by decide +kernel
theorem dX13_init_21 : decode cX13_init 21 = .ok (.putfield 17, 3) := by decide +kernel
theorem dX13_init_24 : decode cX13_init 24 = .ok (.aload_n 0, 1) := by decide +kernel
theorem dX13_init_25 : decode cX13_init 25 = .ok (.bipush 16, 2) := by decide +kernel
theorem dX13_init_27 : decode cX13_init 27 = .ok (.newarray .int, 2) := by decide +kernel
theorem dX13_init_29 : decode cX13_init 29 = .ok (.putfield 20, 3) := by decide +kernel
theorem dX13_init_32 : decode cX13_init 32 = .ok (.aload_n 0, 1) := by decide +kernel
theorem dX13_init_33 : decode cX13_init 33 = .ok (.bipush 16, 2) := by decide +kernel
theorem dX13_init_35 : decode cX13_init 35 = .ok (.newarray .int, 2) := by decide +kernel
theorem dX13_init_37 : decode cX13_init 37 = .ok (.putfield 23, 3) := by decide +kernel
theorem dX13_init_40 : decode cX13_init 40 = .ok (.aload_n 0, 1) := by decide +kernel
theorem dX13_init_41 : decode cX13_init 41 = .ok (.bipush 16, 2) := by decide +kernel
theorem dX13_init_43 : decode cX13_init 43 = .ok (.newarray .int, 2) := by decide +kernel
theorem dX13_init_45 : decode cX13_init 45 = .ok (.putfield 26, 3) := by decide +kernel
theorem dX13_init_48 : decode cX13_init 48 = .ok (.aload_n 0, 1) := by decide +kernel
theorem dX13_init_49 : decode cX13_init 49 = .ok (.bipush 16, 2) := by decide +kernel
theorem dX13_init_51 : decode cX13_init 51 = .ok (.newarray .int, 2) := by decide +kernel
theorem dX13_init_53 : decode cX13_init 53 = .ok (.putfield 29, 3) := by decide +kernel
theorem dX13_init_56 : decode cX13_init 56 = .ok (.aload_n 0, 1) := by decide +kernel
theorem dX13_init_57 : decode cX13_init 57 = .ok (.bipush 48, 2) := by decide +kernel
theorem dX13_init_59 : decode cX13_init 59 = .ok (.newarray .int, 2) := by decide +kernel
theorem dX13_init_61 : decode cX13_init 61 = .ok (.putfield 32, 3) := by decide +kernel
theorem dX13_init_64 : decode cX13_init 64 = .ok (.aload_n 0, 1) := by decide +kernel
theorem dX13_init_65 : decode cX13_init 65 = .ok (.iconst 4, 1) := by decide +kernel
theorem dX13_init_66 : decode cX13_init 66 = .ok (.newarray .int, 2) := by decide +kernel
theorem dX13_init_68 : decode cX13_init 68 = .ok (.putfield 35, 3) := by decide +kernel
theorem dX13_init_71 : decode cX13_init 71 = .ok (.aload_n 0, 1) := by decide +kernel
theorem dX13_init_72 : decode cX13_init 72 = .ok (.iconst 4, 1) := by decide +kernel
theorem dX13_init_73 : decode cX13_init 73 = .ok (.newarray .int, 2) := by decide +kernel
theorem dX13_init_75 : decode cX13_init 75 = .ok (.putfield 38, 3) := by decide +kernel
theorem dX13_init_78 : decode cX13_init 78 = .ok (.aload_n 0, 1) := by decide +kernel
theorem dX13_init_79 : decode cX13_init 79 = .ok (.iconst 4, 1) := by decide +kernel
theorem dX13_init_80 : decode cX13_init 80 = .ok (.newarray .int, 2) := by decide +kernel
theorem dX13_init_82 : decode cX13_init 82 = .ok (.putfield 41, 3) := by decide +kernel
theorem dX13_init_85 : decode cX13_init 85 = .ok (.aload_n 0, 1) := by decide +kernel
theorem dX13_init_86 : decode cX13_init 86 = .ok (.iconst 4, 1) := by decide +kernel
theorem dX13_init_87 : decode cX13_init 87 = .ok (.newarray .int, 2) := by decide +kernel
theorem dX13_init_89 : decode cX13_init 89 = .ok (.putfield 44, 3) := by decide +kernel
theorem dX13_init_92 : decode cX13_init 92 = .ok (.aload_n 0, 1) := by decide +kernel
theorem dX13_init_93 : decode cX13_init 93 = .ok (.iconst 4, 1) := by decide +kernel
theorem dX13_init_94 : decode cX13_init 94 = .ok (.newarray .int, 2) := by decide +kernel
theorem dX13_init_96 : decode cX13_init 96 = .ok (.putfield 47, 3) := by decide +kernel
theorem dX13_init_99 : decode cX13_init 99 = .ok (.aload_n 0, 1) := by decide +kernel
theorem dX13_init_100 : decode cX13_init 100 = .ok (.bipush 30, 2) := by decide +kernel
theorem dX13_init_102 : decode cX13_init 102 = .ok (.newarray .int, 2) := by decide +kernel
theorem dX13_init_104 : decode cX13_init 104 = .ok (.putfield 50, 3) := by decide +kernel
theorem dX13_init_107 : decode cX13_init 107 = .ok (.aload_n 0, 1) := by decide +kernel
theorem dX13_init_108 : decode cX13_init 108 = .ok (.bipush 30, 2) := by decide +kernel
theorem dX13_init_110 : decode cX13_init 110 = .ok (.newarray .int, 2) := by decide +kernel
theorem dX13_init_112 : decode cX13_init 112 = .ok (.putfield 53, 3) := by decide +kernel
theorem dX13_init_115 : decode cX13_init 115 = .ok (.aload_n 0, 1) := by decide +kernel
theorem dX13_init_116 : decode cX13_init 116 = .ok (.bipush 30, 2) := by decide +kernel
theorem dX13_init_118 : decode cX13_init 118 = .ok (.newarray .int, 2) := by decide +kernel
theorem dX13_init_120 : decode cX13_init 120 = .ok (.putfield 56, 3) := by decide +kernel
theorem dX13_init_123 : decode cX13_init 123 = .ok (.aload_n 0, 1) := by decide +kernel
theorem dX13_init_124 : decode cX13_init 124 = .ok (.bipush 30, 2) := by decide +kernel
theorem dX13_init_126 : decode cX13_init 126 = .ok (.newarray .int, 2) := by decide +kernel
theorem dX13_init_128 : decode cX13_init 128 = .ok (.putfield 59, 3) := by decide +kernel
theorem dX13_init_131 : decode cX13_init 131 = .ok (.aload_n 0, 1) := by decide +kernel
theorem dX13_init_132 : decode cX13_init 132 = .ok (.bipush 30, 2) := by decide +kernel
theorem dX13_init_134 : decode cX13_init 134 = .ok (.newarray .int, 2) := by decide +kernel
theorem dX13_init_136 : decode cX13_init 136 = .ok (.putfield 62, 3) := by decide +kernel
theorem dX13_init_139 : decode cX13_init 139 = .ok (.aload_n 0, 1) := by decide +kernel
theorem dX13_init_140 : decode cX13_init 140 = .ok (.new 65, 3) := by decide +kernel
theorem dX13_init_143 : decode cX13_init 143 = .ok (.dup, 1) := by decide +kernel
theorem dX13_init_144 : decode cX13_init 144 = .ok (.aload_n 0, 1) := by decide +kernel
theorem dX13_init_145 : decode cX13_init 145 = .ok (.invokespecial 67, 3) := by decide +kernel
theorem dX13_init_148 : decode cX13_init 148 = .ok (.putfield 70, 3) := by decide +kernel
theorem dX13_init_151 : decode cX13_init 151 = .ok (.aload_n 0, 1) := by decide +kernel
theorem dX13_init_152 : decode cX13_init 152 = .ok (.new 65, 3) := by decide +kernel
theorem dX13_init_155 : decode cX13_init 155 = .ok (.dup, 1) := by decide +kernel
theorem dX13_init_156 : decode cX13_init 156 = .ok (.aload_n 0, 1) := by decide +kernel
theorem dX13_init_157 : decode cX13_init 157 = .ok (.invokespecial 67, 3) := by decide +kernel
theorem dX13_init_160 : decode cX13_init 160 = .ok (.putfield 74, 3) := by decide +kernel
theorem dX13_init_163 : decode cX13_init 163 = .ok (.aload_n 0, 1) := by decide +kernel
theorem dX13_init_164 : decode cX13_init 164 = .ok (.bipush 13, 2) := by decide +kernel
theorem dX13_init_166 : decode cX13_init 166 = .ok (.newarray .int, 2) := by decide +kernel
theorem dX13_init_168 : decode cX13_init 168 = .ok (.putfield 77, 3) := by decide +kernel
theorem dX13_init_171 : decode cX13_init 171 = .ok (.aload_n 0, 1) := by decide +kernel
theorem dX13_init_172 : decode cX13_init 172 = .ok (.bipush 13, 2) := by decide +kernel
theorem dX13_init_174 : decode cX13_init 174 = .ok (.newarray .int, 2) := by decide +kernel
theorem dX13_init_176 : decode cX13_init 176 = .ok (.putfield 80, 3) := by decide +kernel
theorem dX13_init_179 : decode cX13_init 179 = .ok (.aload_n 0, 1) := by decide +kernel
theorem dX13_init_180 : decode cX13_init 180 = .ok (.bipush 13, 2) := by decide +kernel
theorem dX13_init_182 : decode cX13_init 182 = .ok (.newarray .int, 2) := by decide +kernel
theorem dX13_init_184 : decode cX13_init 184 = .ok (.putfield 83, 3) := by decide +kernel
theorem dX13_init_187 : decode cX13_init 187 = .ok (.aload_n 0, 1) := by decide +kernel
theorem dX13_init_188 : decode cX13_init 188 = .ok (.bipush 13, 2) := by decide +kernel
theorem dX13_init_190 : decode cX13_init 190 = .ok (.newarray .int, 2) := by decide +kernel
theorem dX13_init_192 : decode cX13_init 192 = .ok (.putfield 86, 3) := by decide +kernel
theorem dX13_init_195 : decode cX13_init 195 = .ok (.aload_n 0, 1) := by decide +kernel
theorem dX13_init_196 : decode cX13_init 196 = .ok (.getfield 7, 3) := by decide +kernel
theorem dX13_init_199 : decode cX13_init 199 = .ok (.bipush 10, 2) := by decide +kernel
theorem dX13_init_201 : decode cX13_init 201 = .ok (.invokestatic 89, 3) := by decide +kernel
theorem dX13_init_204 : decode cX13_init 204 = .ok (.return_, 1) := by decide +kernel
theorem dX13_thrown_0 : decode cX13_thrown 0 = .ok (.aload_n 0, 1) := by decide +kernel
theorem dX13_thrown_1 : decode cX13_thrown 1 = .ok (.getfield 95, 3) := by decide +kernel
theorem dX13_thrown_4 : decode cX13_thrown 4 = .ok (.ireturn, 1) := by decide +kernel
theorem dX13_no_0 : decode cX13_no 0 = .ok (.aload_n 0, 1) := by decide +kernel
theorem dX13_no_1 : decode cX13_no 1 = .ok (.iload_n 1, 1) := by decide +kernel
theorem dX13_no_2 : decode cX13_no 2 = .ok (.putfield 95, 3) := by decide +kernel
theorem dX13_no_5 : decode cX13_no 5 = .ok (.iconst 0, 1) := by decide +kernel
theorem dX13_no_6 : decode cX13_no 6 = .ok (.ireturn, 1) := by decide +kernel
theorem dX13_isIn_0 : decode cX13_isIn 0 = .ok (.iload_n 0, 1) := by decide +kernel
theorem dX13_isIn_1 : decode cX13_isIn 1 = .ok (.iload_n 1, 1) := by decide +kernel
theorem dX13_isIn_2 : decode cX13_isIn 2 = .ok (.if_icmp .lt 12, 3) := by decide +kernel
theorem dX13_isIn_5 : decode cX13_isIn 5 = .ok (.iload_n 0, 1) := by decide +kernel
theorem dX13_isIn_6 : decode cX13_isIn 6 = .ok (.iload_n 2, 1) := by decide +kernel
theorem dX13_isIn_7 : decode cX13_isIn 7 = .ok (.if_icmp .gt 7, 3) := by decide +kernel
theorem dX13_isIn_10 : decode cX13_isIn 10 = .ok (.iconst 1, 1) := by decide +kernel
theorem dX13_isIn_11 : decode cX13_isIn 11 = .ok (.goto 4, 3) := by decide +kernel
theorem dX13_isIn_14 : decode cX13_isIn 14 = .ok (.iconst 0, 1) := by decide +kernel
theorem dX13_isIn_15 : decode cX13_isIn 15 = .ok (.ireturn, 1) := by decide +kernel
theorem dX13_isPlace_0 : decode cX13_isPlace 0 = .ok (.iload_n 0, 1) := by decide +kernel
theorem dX13_isPlace_1 : decode cX13_isPlace 1 = .ok (.iconst 0, 1) := by decide +kernel
theorem dX13_isPlace_2 : decode cX13_isPlace 2 = .ok (.bipush 60, 2) := by decide +kernel
theorem dX13_isPlace_4 : decode cX13_isPlace 4 = .ok (.invokestatic 98, 3) := by decide +kernel
theorem dX13_isPlace_7 : decode cX13_isPlace 7 = .ok (.ifCond .eq 17, 3) := by decide +kernel
theorem dX13_isPlace_10 : decode cX13_isPlace 10 = .ok (.iload_n 1, 1) := by decide +kernel
theorem dX13_isPlace_11 : decode cX13_isPlace 11 = .ok (.iconst 0, 1) := by decide +kernel
theorem dX13_isPlace_12 : decode cX13_isPlace 12 = .ok (.bipush 60, 2) := by decide +kernel
theorem dX13_isPlace_14 : decode cX13_isPlace 14 = .ok (.invokestatic 98, 3) := by decide +kernel
theorem dX13_isPlace_17 : decode cX13_isPlace 17 = .ok (.ifCond .eq 7, 3) := by decide +kernel
theorem dX13_isPlace_20 : decode cX13_isPlace 20 = .ok (.iconst 1, 1) := by decide +kernel
theorem dX13_isPlace_21 : decode cX13_isPlace 21 = .ok (.goto 4, 3) := by decide +kernel
theorem dX13_isPlace_24 : decode cX13_isPlace 24 = .ok (.iconst 0, 1) := by decide +kernel
theorem dX13_isPlace_25 : decode cX13_isPlace 25 = .ok (.ireturn, 1) := by decide +kernel
theorem dX13_apart_0 : decode cX13_apart 0 = .ok (.iload_n 0, 1) := by decide +kernel
theorem dX13_apart_1 : decode cX13_apart 1 = .ok (.iload_n 2, 1) := by decide +kernel
theorem dX13_apart_2 : decode cX13_apart 2 = .ok (.isub, 1) := by decide +kernel
theorem dX13_apart_3 : decode cX13_apart 3 = .ok (.invokestatic 102, 3) := by decide +kernel
theorem dX13_apart_6 : decode cX13_apart 6 = .ok (.iload_n 1, 1) := by decide +kernel
theorem dX13_apart_7 : decode cX13_apart 7 = .ok (.iload_n 3, 1) := by decide +kernel
theorem dX13_apart_8 : decode cX13_apart 8 = .ok (.isub, 1) := by decide +kernel
theorem dX13_apart_9 : decode cX13_apart 9 = .ok (.invokestatic 102, 3) := by decide +kernel
theorem dX13_apart_12 : decode cX13_apart 12 = .ok (.iadd, 1) := by decide +kernel
theorem dX13_apart_13 : decode cX13_apart 13 = .ok (.ireturn, 1) := by decide +kernel
theorem dX13_minutes_0 : decode cX13_minutes 0 = .ok (.iload_n 1, 1) := by decide +kernel
theorem dX13_minutes_1 : decode cX13_minutes 1 = .ok (.aload_n 0, 1) := by decide +kernel
theorem dX13_minutes_2 : decode cX13_minutes 2 = .ok (.getfield 7, 3) := by decide +kernel
theorem dX13_minutes_5 : decode cX13_minutes 5 = .ok (.iload_n 2, 1) := by decide +kernel
theorem dX13_minutes_6 : decode cX13_minutes 6 = .ok (.bipush 60, 2) := by decide +kernel
theorem dX13_minutes_8 : decode cX13_minutes 8 = .ok (.idiv, 1) := by decide +kernel
theorem dX13_minutes_9 : decode cX13_minutes 9 = .ok (.bipush 24, 2) := by decide +kernel
theorem dX13_minutes_11 : decode cX13_minutes 11 = .ok (.irem, 1) := by decide +kernel
theorem dX13_minutes_12 : decode cX13_minutes 12 = .ok (.iaload, 1) := by decide +kernel
theorem dX13_minutes_13 : decode cX13_minutes 13 = .ok (.imul, 1) := by decide +kernel
theorem dX13_minutes_14 : decode cX13_minutes 14 = .ok (.bipush 9, 2) := by decide +kernel
theorem dX13_minutes_16 : decode cX13_minutes 16 = .ok (.iadd, 1) := by decide +kernel
theorem dX13_minutes_17 : decode cX13_minutes 17 = .ok (.bipush 10, 2) := by decide +kernel
theorem dX13_minutes_19 : decode cX13_minutes 19 = .ok (.idiv, 1) := by decide +kernel
theorem dX13_minutes_20 : decode cX13_minutes 20 = .ok (.ireturn, 1) := by decide +kernel
theorem dX13_isHomeNumber_0 : decode cX13_isHomeNumber 0 = .ok (.iload_n 1, 1) := by decide +kernel
theorem dX13_isHomeNumber_1 : decode cX13_isHomeNumber 1 = .ok (.iconst 0, 1) := by decide +kernel
theorem dX13_isHomeNumber_2 : decode cX13_isHomeNumber 2 = .ok (.aload_n 0, 1) := by decide +kernel
theorem dX13_isHomeNumber_3 : decode cX13_isHomeNumber 3 = .ok (.getfield 108, 3) := by decide +kernel
theorem dX13_isHomeNumber_6 : decode cX13_isHomeNumber 6 = .ok (.iconst 1, 1) := by decide +kernel
theorem dX13_isHomeNumber_7 : decode cX13_isHomeNumber 7 = .ok (.isub, 1) := by decide +kernel
theorem dX13_isHomeNumber_8 : decode cX13_isHomeNumber 8 = .ok (.invokestatic 98, 3) := by decide +kernel
theorem dX13_isHomeNumber_11 : decode cX13_isHomeNumber 11 = .ok (.ireturn, 1) := by decide +kernel
theorem dX13_isLocker_0 : decode cX13_isLocker 0 = .ok (.iload_n 1, 1) := by decide +kernel
theorem dX13_isLocker_1 : decode cX13_isLocker 1 = .ok (.iconst 0, 1) := by decide +kernel
theorem dX13_isLocker_2 : decode cX13_isLocker 2 = .ok (.aload_n 0, 1) := by decide +kernel
theorem dX13_isLocker_3 : decode cX13_isLocker 3 = .ok (.getfield 111, 3) := by decide +kernel
theorem dX13_isLocker_6 : decode cX13_isLocker 6 = .ok (.iconst 1, 1) := by decide +kernel
theorem dX13_isLocker_7 : decode cX13_isLocker 7 = .ok (.isub, 1) := by decide +kernel
theorem dX13_isLocker_8 : decode cX13_isLocker 8 = .ok (.invokestatic 98, 3) := by decide +kernel
theorem dX13_isLocker_11 : decode cX13_isLocker 11 = .ok (.ireturn, 1) := by decide +kernel
theorem dX13_isVan_0 : decode cX13_isVan 0 = .ok (.iload_n 1, 1) := by decide +kernel
theorem dX13_isVan_1 : decode cX13_isVan 1 = .ok (.iconst 0, 1) := by decide +kernel
theorem dX13_isVan_2 : decode cX13_isVan 2 = .ok (.aload_n 0, 1) := by decide +kernel
theorem dX13_isVan_3 : decode cX13_isVan 3 = .ok (.getfield 114, 3) := by decide +kernel
theorem dX13_isVan_6 : decode cX13_isVan 6 = .ok (.iconst 1, 1) := by decide +kernel
theorem dX13_isVan_7 : decode cX13_isVan 7 = .ok (.isub, 1) := by decide +kernel
theorem dX13_isVan_8 : decode cX13_isVan 8 = .ok (.invokestatic 98, 3) := by decide +kernel
theorem dX13_isVan_11 : decode cX13_isVan 11 = .ok (.ireturn, 1) := by decide +kernel
theorem dX13_isParcel_0 : decode cX13_isParcel 0 = .ok (.iload_n 1, 1) := by decide +kernel
theorem dX13_isParcel_1 : decode cX13_isParcel 1 = .ok (.iconst 0, 1) := by decide +kernel
theorem dX13_isParcel_2 : decode cX13_isParcel 2 = .ok (.aload_n 0, 1) := by decide +kernel
theorem dX13_isParcel_3 : decode cX13_isParcel 3 = .ok (.getfield 117, 3) := by decide +kernel
theorem dX13_isParcel_6 : decode cX13_isParcel 6 = .ok (.iconst 1, 1) := by decide +kernel
theorem dX13_isParcel_7 : decode cX13_isParcel 7 = .ok (.isub, 1) := by decide +kernel
theorem dX13_isParcel_8 : decode cX13_isParcel 8 = .ok (.invokestatic 98, 3) := by decide +kernel
theorem dX13_isParcel_11 : decode cX13_isParcel 11 = .ok (.ireturn, 1) := by decide +kernel
theorem dX13_setRoads_0 : decode cX13_setRoads 0 = .ok (.aload_n 0, 1) := by decide +kernel
theorem dX13_setRoads_1 : decode cX13_setRoads 1 = .ok (.iconst 0, 1) := by decide +kernel
theorem dX13_setRoads_2 : decode cX13_setRoads 2 = .ok (.putfield 95, 3) := by decide +kernel
theorem dX13_setRoads_5 : decode cX13_setRoads 5 = .ok (.iload_n 1, 1) := by decide +kernel
theorem dX13_setRoads_6 : decode cX13_setRoads 6 = .ok (.iconst 0, 1) := by decide +kernel
theorem dX13_setRoads_7 : decode cX13_setRoads 7 = .ok (.bipush 23, 2) := by decide +kernel
theorem dX13_setRoads_9 : decode cX13_setRoads 9 = .ok (.invokestatic 98, 3) := by decide +kernel
theorem dX13_setRoads_12 : decode cX13_setRoads 12 = .ok (.ifCond .ne 9, 3) := by decide +kernel
theorem dX13_setRoads_15 : decode cX13_setRoads 15 = .ok (.aload_n 0, 1) := by decide +kernel
theorem dX13_setRoads_16 : decode cX13_setRoads 16 = .ok (.iconst 1, 1) := by decide +kernel
theorem dX13_setRoads_17 : decode cX13_setRoads 17 = .ok (.invokevirtual 120, 3) := by decide +kernel
theorem dX13_setRoads_20 : decode cX13_setRoads 20 = .ok (.ireturn, 1) := by decide +kernel
theorem dX13_setRoads_21 : decode cX13_setRoads 21 = .ok (.iload_n 2, 1) := by decide +kernel
theorem dX13_setRoads_22 : decode cX13_setRoads 22 = .ok (.iconst 5, 1) := by decide +kernel
theorem dX13_setRoads_23 : decode cX13_setRoads 23 = .ok (.bipush 30, 2) := by decide +kernel
theorem dX13_setRoads_25 : decode cX13_setRoads 25 = .ok (.invokestatic 98, 3) := by decide +kernel
theorem dX13_setRoads_28 : decode cX13_setRoads 28 = .ok (.ifCond .ne 9, 3) := by decide +kernel
theorem dX13_setRoads_31 : decode cX13_setRoads 31 = .ok (.aload_n 0, 1) := by decide +kernel
theorem dX13_setRoads_32 : decode cX13_setRoads 32 = .ok (.iconst 2, 1) := by decide +kernel
theorem dX13_setRoads_33 : decode cX13_setRoads 33 = .ok (.invokevirtual 120, 3) := by decide +kernel
theorem dX13_setRoads_36 : decode cX13_setRoads 36 = .ok (.ireturn, 1) := by decide +kernel
theorem dX13_setRoads_37 : decode cX13_setRoads 37 = .ok (.aload_n 0, 1) := by decide +kernel
theorem dX13_setRoads_38 : decode cX13_setRoads 38 = .ok (.getfield 7, 3) := by decide +kernel
theorem dX13_setRoads_41 : decode cX13_setRoads 41 = .ok (.iload_n 1, 1) := by decide +kernel
theorem dX13_setRoads_42 : decode cX13_setRoads 42 = .ok (.iaload, 1) := by decide +kernel
theorem dX13_setRoads_43 : decode cX13_setRoads 43 = .ok (.istore_n 3, 1) := by decide +kernel
theorem dX13_setRoads_44 : decode cX13_setRoads 44 = .ok (.aload_n 0, 1) := by decide +kernel
theorem dX13_setRoads_45 : decode cX13_setRoads 45 = .ok (.getfield 7, 3) := by decide +kernel
theorem dX13_setRoads_48 : decode cX13_setRoads 48 = .ok (.iload_n 1, 1) := by decide +kernel
theorem dX13_setRoads_49 : decode cX13_setRoads 49 = .ok (.iload_n 2, 1) := by decide +kernel
theorem dX13_setRoads_50 : decode cX13_setRoads 50 = .ok (.iastore, 1) := by decide +kernel
theorem dX13_setRoads_51 : decode cX13_setRoads 51 = .ok (.iload_n 3, 1) := by decide +kernel
theorem dX13_setRoads_52 : decode cX13_setRoads 52 = .ok (.ireturn, 1) := by decide +kernel
theorem dX13_setDepot_0 : decode cX13_setDepot 0 = .ok (.aload_n 0, 1) := by decide +kernel
theorem dX13_setDepot_1 : decode cX13_setDepot 1 = .ok (.iconst 0, 1) := by decide +kernel
theorem dX13_setDepot_2 : decode cX13_setDepot 2 = .ok (.putfield 95, 3) := by decide +kernel
theorem dX13_setDepot_5 : decode cX13_setDepot 5 = .ok (.iload_n 1, 1) := by decide +kernel
theorem dX13_setDepot_6 : decode cX13_setDepot 6 = .ok (.iload_n 2, 1) := by decide +kernel
theorem dX13_setDepot_7 : decode cX13_setDepot 7 = .ok (.invokestatic 123, 3) := by decide +kernel
theorem dX13_setDepot_10 : decode cX13_setDepot 10 = .ok (.ifCond .ne 9, 3) := by decide +kernel
theorem dX13_setDepot_13 : decode cX13_setDepot 13 = .ok (.aload_n 0, 1) := by decide +kernel
theorem dX13_setDepot_14 : decode cX13_setDepot 14 = .ok (.iconst 1, 1) := by decide +kernel
theorem dX13_setDepot_15 : decode cX13_setDepot 15 = .ok (.invokevirtual 120, 3) := by decide +kernel
theorem dX13_setDepot_18 : decode cX13_setDepot 18 = .ok (.ireturn, 1) := by decide +kernel
theorem dX13_setDepot_19 : decode cX13_setDepot 19 = .ok (.bipush 100, 2) := by decide +kernel
theorem dX13_setDepot_21 : decode cX13_setDepot 21 = .ok (.aload_n 0, 1) := by decide +kernel
theorem dX13_setDepot_22 : decode cX13_setDepot 22 = .ok (.getfield 13, 3) := by decide +kernel
theorem dX13_setDepot_25 : decode cX13_setDepot 25 = .ok (.imul, 1) := by decide +kernel
theorem dX13_setDepot_26 : decode cX13_setDepot 26 = .ok (.aload_n 0, 1) := by decide +kernel
theorem dX13_setDepot_27 : decode cX13_setDepot 27 = .ok (.getfield 17, 3) := by decide +kernel
theorem dX13_setDepot_30 : decode cX13_setDepot 30 = .ok (.iadd, 1) := by decide +kernel
theorem dX13_setDepot_31 : decode cX13_setDepot 31 = .ok (.istore_n 3, 1) := by decide +kernel
theorem dX13_setDepot_32 : decode cX13_setDepot 32 = .ok (.aload_n 0, 1) := by decide +kernel
theorem dX13_setDepot_33 : decode cX13_setDepot 33 = .ok (.iload_n 1, 1) := by decide +kernel
theorem dX13_setDepot_34 : decode cX13_setDepot 34 = .ok (.putfield 13, 3) := by decide +kernel
theorem dX13_setDepot_37 : decode cX13_setDepot 37 = .ok (.aload_n 0, 1) := by decide +kernel
theorem dX13_setDepot_38 : decode cX13_setDepot 38 = .ok (.iload_n 2, 1) := by decide +kernel
theorem dX13_setDepot_39 : decode cX13_setDepot 39 = .ok (.putfield 17, 3) := by decide +kernel
theorem dX13_setDepot_42 : decode cX13_setDepot 42 = .ok (.iload_n 3, 1) := by decide +kernel
theorem dX13_setDepot_43 : decode cX13_setDepot 43 = .ok (.ireturn, 1) := by decide +kernel
theorem dX13_addHome_0 : decode cX13_addHome 0 = .ok (.aload_n 0, 1) := by decide +kernel
theorem dX13_addHome_1 : decode cX13_addHome 1 = .ok (.iconst 0, 1) := by decide +kernel
theorem dX13_addHome_2 : decode cX13_addHome 2 = .ok (.putfield 95, 3) := by decide +kernel
theorem dX13_addHome_5 : decode cX13_addHome 5 = .ok (.iload_n 1, 1) := by decide +kernel
theorem dX13_addHome_6 : decode cX13_addHome 6 = .ok (.iload_n 2, 1) := by decide +kernel
theorem dX13_addHome_7 : decode cX13_addHome 7 = .ok (.invokestatic 123, 3) := by decide +kernel
theorem dX13_addHome_10 : decode cX13_addHome 10 = .ok (.ifCond .eq 13, 3) := by decide +kernel
theorem dX13_addHome_13 : decode cX13_addHome 13 = .ok (.iload_n 3, 1) := by decide +kernel
theorem dX13_addHome_14 : decode cX13_addHome 14 = .ok (.iconst 0, 1) := by decide +kernel
theorem dX13_addHome_15 : decode cX13_addHome 15 = .ok (.ldc 127, 2) := by decide +kernel
theorem dX13_addHome_17 : decode cX13_addHome 17 = .ok (.invokestatic 98, 3) := by decide +kernel
theorem dX13_addHome_20 : decode cX13_addHome 20 = .ok (.ifCond .ne 9, 3) := by decide +kernel
theorem dX13_addHome_23 : decode cX13_addHome 23 = .ok (.aload_n 0, 1) := by decide +kernel
theorem dX13_addHome_24 : decode cX13_addHome 24 = .ok (.iconst 1, 1) := by decide +kernel
theorem dX13_addHome_25 : decode cX13_addHome 25 = .ok (.invokevirtual 120, 3) := by decide +kernel
theorem dX13_addHome_28 : decode cX13_addHome 28 = .ok (.ireturn, 1) := by decide +kernel
theorem dX13_addHome_29 : decode cX13_addHome 29 = .ok (.aload_n 0, 1) := by decide +kernel
theorem dX13_addHome_30 : decode cX13_addHome 30 = .ok (.getfield 108, 3) := by decide +kernel
theorem dX13_addHome_33 : decode cX13_addHome 33 = .ok (.bipush 16, 2) := by decide +kernel
theorem dX13_addHome_35 : decode cX13_addHome 35 = .ok (.if_icmp .ne 9, 3) := by decide +kernel
theorem dX13_addHome_38 : decode cX13_addHome 38 = .ok (.aload_n 0, 1) := by decide +kernel
theorem dX13_addHome_39 : decode cX13_addHome 39 = .ok (.iconst 2, 1) := by decide +kernel
theorem dX13_addHome_40 : decode cX13_addHome 40 = .ok (.invokevirtual 120, 3) := by decide +kernel
theorem dX13_addHome_43 : decode cX13_addHome 43 = .ok (.ireturn, 1) := by decide +kernel
theorem dX13_addHome_44 : decode cX13_addHome 44 = .ok (.aload_n 0, 1) := by decide +kernel
theorem dX13_addHome_45 : decode cX13_addHome 45 = .ok (.getfield 20, 3) := by decide +kernel
theorem dX13_addHome_48 : decode cX13_addHome 48 = .ok (.aload_n 0, 1) := by decide +kernel
theorem dX13_addHome_49 : decode cX13_addHome 49 = .ok (.getfield 108, 3) := by decide +kernel
theorem dX13_addHome_52 : decode cX13_addHome 52 = .ok (.iload_n 1, 1) := by decide +kernel
theorem dX13_addHome_53 : decode cX13_addHome 53 = .ok (.iastore, 1) := by decide +kernel
theorem dX13_addHome_54 : decode cX13_addHome 54 = .ok (.aload_n 0, 1) := by decide +kernel
theorem dX13_addHome_55 : decode cX13_addHome 55 = .ok (.getfield 23, 3) := by decide +kernel
theorem dX13_addHome_58 : decode cX13_addHome 58 = .ok (.aload_n 0, 1) := by decide +kernel
theorem dX13_addHome_59 : decode cX13_addHome 59 = .ok (.getfield 108, 3) := by decide +kernel
theorem dX13_addHome_62 : decode cX13_addHome 62 = .ok (.iload_n 2, 1) := by decide +kernel
theorem dX13_addHome_63 : decode cX13_addHome 63 = .ok (.iastore, 1) := by decide +kernel
theorem dX13_addHome_64 : decode cX13_addHome 64 = .ok (.aload_n 0, 1) := by decide +kernel
theorem dX13_addHome_65 : decode cX13_addHome 65 = .ok (.getfield 26, 3) := by decide +kernel
theorem dX13_addHome_68 : decode cX13_addHome 68 = .ok (.aload_n 0, 1) := by decide +kernel
theorem dX13_addHome_69 : decode cX13_addHome 69 = .ok (.getfield 108, 3) := by decide +kernel
theorem dX13_addHome_72 : decode cX13_addHome 72 = .ok (.iload_n 3, 1) := by decide +kernel
theorem dX13_addHome_73 : decode cX13_addHome 73 = .ok (.iastore, 1) := by decide +kernel
theorem dX13_addHome_74 : decode cX13_addHome 74 = .ok (.aload_n 0, 1) := by decide +kernel
theorem dX13_addHome_75 : decode cX13_addHome 75 = .ok (.dup, 1) := by decide +kernel
theorem dX13_addHome_76 : decode cX13_addHome 76 = .ok (.getfield 108, 3) := by decide +kernel
theorem dX13_addHome_79 : decode cX13_addHome 79 = .ok (.iconst 1, 1) := by decide +kernel
theorem dX13_addHome_80 : decode cX13_addHome 80 = .ok (.iadd, 1) := by decide +kernel
theorem dX13_addHome_81 : decode cX13_addHome 81 = .ok (.putfield 108, 3) := by decide +kernel
theorem dX13_addHome_84 : decode cX13_addHome 84 = .ok (.aload_n 0, 1) := by decide +kernel
theorem dX13_addHome_85 : decode cX13_addHome 85 = .ok (.getfield 108, 3) := by decide +kernel
theorem dX13_addHome_88 : decode cX13_addHome 88 = .ok (.iconst 1, 1) := by decide +kernel
theorem dX13_addHome_89 : decode cX13_addHome 89 = .ok (.isub, 1) := by decide +kernel
theorem dX13_addHome_90 : decode cX13_addHome 90 = .ok (.ireturn, 1) := by decide +kernel
theorem dX13_order_0 : decode cX13_order 0 = .ok (.aload_n 0, 1) := by decide +kernel
theorem dX13_order_1 : decode cX13_order 1 = .ok (.iconst 0, 1) := by decide +kernel
theorem dX13_order_2 : decode cX13_order 2 = .ok (.putfield 95, 3) := by decide +kernel
theorem dX13_order_5 : decode cX13_order 5 = .ok (.aload_n 0, 1) := by decide +kernel
theorem dX13_order_6 : decode cX13_order 6 = .ok (.iload_n 1, 1) := by decide +kernel
theorem dX13_order_7 : decode cX13_order 7 = .ok (.invokevirtual 128, 3) := by decide +kernel
theorem dX13_order_10 : decode cX13_order 10 = .ok (.ifCond .eq 26, 3) := by decide +kernel
theorem dX13_order_13 : decode cX13_order 13 = .ok (.iload_n 2, 1) := by decide +kernel
theorem dX13_order_14 : decode cX13_order 14 = .ok (.ifCond .eq 14, 3) := by decide +kernel
theorem dX13_order_17 : decode cX13_order 17 = .ok (.aload_n 0, 1) := by decide +kernel
theorem dX13_order_18 : decode cX13_order 18 = .ok (.iload_n 3, 1) := by decide +kernel
theorem dX13_order_19 : decode cX13_order 19 = .ok (.invokevirtual 132, 3) := by decide +kernel
theorem dX13_order_22 : decode cX13_order 22 = .ok (.ifCond .eq 14, 3) := by decide +kernel
theorem dX13_order_25 : decode cX13_order 25 = .ok (.goto 17, 3) := by decide +kernel
theorem dX13_order_28 : decode cX13_order 28 = .ok (.aload_n 0, 1) := by decide +kernel
theorem dX13_order_29 : decode cX13_order 29 = .ok (.iload_n 3, 1) := by decide +kernel
theorem dX13_order_30 : decode cX13_order 30 = .ok (.invokevirtual 128, 3) := by decide +kernel
theorem dX13_order_33 : decode cX13_order 33 = .ok (.ifCond .ne 9, 3) := by decide +kernel
theorem dX13_order_36 : decode cX13_order 36 = .ok (.aload_n 0, 1) := by decide +kernel
theorem dX13_order_37 : decode cX13_order 37 = .ok (.iconst 1, 1) := by decide +kernel
theorem dX13_order_38 : decode cX13_order 38 = .ok (.invokevirtual 120, 3) := by decide +kernel
theorem dX13_order_41 : decode cX13_order 41 = .ok (.ireturn, 1) := by decide +kernel
theorem dX13_order_42 : decode cX13_order 42 = .ok (.iload_n 2, 1) := by decide +kernel
theorem dX13_order_43 : decode cX13_order 43 = .ok (.ifCond .ne 14, 3) := by decide +kernel
theorem dX13_order_46 : decode cX13_order 46 = .ok (.iload_n 3, 1) := by decide +kernel
theorem dX13_order_47 : decode cX13_order 47 = .ok (.iload_n 1, 1) := by decide +kernel
theorem dX13_order_48 : decode cX13_order 48 = .ok (.if_icmp .ne 9, 3) := by decide +kernel
theorem dX13_order_51 : decode cX13_order 51 = .ok (.aload_n 0, 1) := by decide +kernel
theorem dX13_order_52 : decode cX13_order 52 = .ok (.iconst 2, 1) := by decide +kernel
theorem dX13_order_53 : decode cX13_order 53 = .ok (.invokevirtual 120, 3) := by decide +kernel
theorem dX13_order_56 : decode cX13_order 56 = .ok (.ireturn, 1) := by decide +kernel
theorem dX13_order_57 : decode cX13_order 57 = .ok (.aload_n 0, 1) := by decide +kernel
theorem dX13_order_58 : decode cX13_order 58 = .ok (.getfield 29, 3) := by decide +kernel
theorem dX13_order_61 : decode cX13_order 61 = .ok (.iload_n 1, 1) := by decide +kernel
theorem dX13_order_62 : decode cX13_order 62 = .ok (.iaload, 1) := by decide +kernel
theorem dX13_order_63 : decode cX13_order 63 = .ok (.iconst 3, 1) := by decide +kernel
theorem dX13_order_64 : decode cX13_order 64 = .ok (.if_icmp .ne 9, 3) := by decide +kernel
theorem dX13_order_67 : decode cX13_order 67 = .ok (.aload_n 0, 1) := by decide +kernel
theorem dX13_order_68 : decode cX13_order 68 = .ok (.iconst 3, 1) := by decide +kernel
theorem dX13_order_69 : decode cX13_order 69 = .ok (.invokevirtual 120, 3) := by decide +kernel
theorem dX13_order_72 : decode cX13_order 72 = .ok (.ireturn, 1) := by decide +kernel
theorem dX13_order_73 : decode cX13_order 73 = .ok (.aload_n 0, 1) := by decide +kernel
theorem dX13_order_74 : decode cX13_order 74 = .ok (.getfield 32, 3) := by decide +kernel
theorem dX13_order_77 : decode cX13_order 77 = .ok (.iconst 3, 1) := by decide +kernel
theorem dX13_order_78 : decode cX13_order 78 = .ok (.iload_n 1, 1) := by decide +kernel
theorem dX13_order_79 : decode cX13_order 79 = .ok (.imul, 1) := by decide +kernel
theorem dX13_order_80 : decode cX13_order 80 = .ok (.aload_n 0, 1) := by decide +kernel
theorem dX13_order_81 : decode cX13_order 81 = .ok (.getfield 29, 3) := by decide +kernel
theorem dX13_order_84 : decode cX13_order 84 = .ok (.iload_n 1, 1) := by decide +kernel
theorem dX13_order_85 : decode cX13_order 85 = .ok (.iaload, 1) := by decide +kernel
theorem dX13_order_86 : decode cX13_order 86 = .ok (.iadd, 1) := by decide +kernel
theorem dX13_order_87 : decode cX13_order 87 = .ok (.iload_n 2, 1) := by decide +kernel
theorem dX13_order_88 : decode cX13_order 88 = .ok (.ifCond .eq 8, 3) := by decide +kernel
theorem dX13_order_91 : decode cX13_order 91 = .ok (.bipush 100, 2) := by decide +kernel
theorem dX13_order_93 : decode cX13_order 93 = .ok (.goto 6, 3) := by decide +kernel
theorem dX13_order_96 : decode cX13_order 96 = .ok (.sipush 200, 3) := by decide +kernel
theorem dX13_order_99 : decode cX13_order 99 = .ok (.iload_n 3, 1) := by decide +kernel
theorem dX13_order_100 : decode cX13_order 100 = .ok (.iadd, 1) := by decide +kernel
theorem dX13_order_101 : decode cX13_order 101 = .ok (.iastore, 1) := by decide +kernel
theorem dX13_order_102 : decode cX13_order 102 = .ok (.aload_n 0, 1) := by decide +kernel
theorem dX13_order_103 : decode cX13_order 103 = .ok (.getfield 29, 3) := by decide +kernel
theorem dX13_order_106 : decode cX13_order 106 = .ok (.iload_n 1, 1) := by decide +kernel
theorem dX13_order_107 : decode cX13_order 107 = .ok (.dup2, 1) := by decide +kernel
theorem dX13_order_108 : decode cX13_order 108 = .ok (.iaload, 1) := by decide +kernel
theorem dX13_order_109 : decode cX13_order 109 = .ok (.iconst 1, 1) := by decide +kernel
theorem dX13_order_110 : decode cX13_order 110 = .ok (.iadd, 1) := by decide +kernel
theorem dX13_order_111 : decode cX13_order 111 = .ok (.iastore, 1) := by decide +kernel
theorem dX13_order_112 : decode cX13_order 112 = .ok (.aload_n 0, 1) := by decide +kernel
theorem dX13_order_113 : decode cX13_order 113 = .ok (.getfield 29, 3) := by decide +kernel
theorem dX13_order_116 : decode cX13_order 116 = .ok (.iload_n 1, 1) := by decide +kernel
theorem dX13_order_117 : decode cX13_order 117 = .ok (.iaload, 1) := by decide +kernel
theorem dX13_order_118 : decode cX13_order 118 = .ok (.ireturn, 1) := by decide +kernel
theorem dX13_addLocker_0 : decode cX13_addLocker 0 = .ok (.aload_n 0, 1) := by decide +kernel
theorem dX13_addLocker_1 : decode cX13_addLocker 1 = .ok (.iconst 0, 1) := by decide +kernel
theorem dX13_addLocker_2 : decode cX13_addLocker 2 = .ok (.putfield 95, 3) := by decide +kernel
theorem dX13_addLocker_5 : decode cX13_addLocker 5 = .ok (.iload_n 1, 1) := by decide +kernel
theorem dX13_addLocker_6 : decode cX13_addLocker 6 = .ok (.iload_n 2, 1) := by decide +kernel
theorem dX13_addLocker_7 : decode cX13_addLocker 7 = .ok (.invokestatic 123, 3) := by decide +kernel
theorem dX13_addLocker_10 : decode cX13_addLocker 10 = .ok (.ifCond .eq 35, 3) := by decide +kernel
theorem dX13_addLocker_13 : decode cX13_addLocker 13 = .ok (.iload_n 3, 1) := by decide +kernel
theorem dX13_addLocker_14 : decode cX13_addLocker 14 = .ok (.iconst 0, 1) := by decide +kernel
theorem dX13_addLocker_15 : decode cX13_addLocker 15 = .ok (.bipush 9, 2) := by decide +kernel
theorem dX13_addLocker_17 : decode cX13_addLocker 17 = .ok (.invokestatic 98, 3) := by decide +kernel
theorem dX13_addLocker_20 : decode cX13_addLocker 20 = .ok (.ifCond .eq 25, 3) := by decide +kernel
theorem dX13_addLocker_23 : decode cX13_addLocker 23 = .ok (.iload 4, 2) := by decide +kernel
theorem dX13_addLocker_25 : decode cX13_addLocker 25 = .ok (.iconst 0, 1) := by decide +kernel
theorem dX13_addLocker_26 : decode cX13_addLocker 26 = .ok (.bipush 9, 2) := by decide +kernel
theorem dX13_addLocker_28 : decode cX13_addLocker 28 = .ok (.invokestatic 98, 3) := by decide +kernel
theorem dX13_addLocker_31 : decode cX13_addLocker 31 = .ok (.ifCond .eq 14, 3) := by decide +kernel
theorem dX13_addLocker_34 : decode cX13_addLocker 34 = .ok (.iload 5, 2) := by decide +kernel
theorem dX13_addLocker_36 : decode cX13_addLocker 36 = .ok (.iconst 0, 1) := by decide +kernel
theorem dX13_addLocker_37 : decode cX13_addLocker 37 = .ok (.bipush 9, 2) := by decide +kernel
theorem dX13_addLocker_39 : decode cX13_addLocker 39 = .ok (.invokestatic 98, 3) := by decide +kernel
theorem dX13_addLocker_42 : decode cX13_addLocker 42 = .ok (.ifCond .ne 9, 3) := by decide +kernel
theorem dX13_addLocker_45 : decode cX13_addLocker 45 = .ok (.aload_n 0, 1) := by decide +kernel
theorem dX13_addLocker_46 : decode cX13_addLocker 46 = .ok (.iconst 1, 1) := by decide +kernel
theorem dX13_addLocker_47 : decode cX13_addLocker 47 = .ok (.invokevirtual 120, 3) := by decide +kernel
theorem dX13_addLocker_50 : decode cX13_addLocker 50 = .ok (.ireturn, 1) := by decide +kernel
theorem dX13_addLocker_51 : decode cX13_addLocker 51 = .ok (.aload_n 0, 1) := by decide +kernel
theorem dX13_addLocker_52 : decode cX13_addLocker 52 = .ok (.getfield 111, 3) := by decide +kernel
theorem dX13_addLocker_55 : decode cX13_addLocker 55 = .ok (.iconst 4, 1) := by decide +kernel
theorem dX13_addLocker_56 : decode cX13_addLocker 56 = .ok (.if_icmp .ne 9, 3) := by decide +kernel
theorem dX13_addLocker_59 : decode cX13_addLocker 59 = .ok (.aload_n 0, 1) := by decide +kernel
theorem dX13_addLocker_60 : decode cX13_addLocker 60 = .ok (.iconst 2, 1) := by decide +kernel
theorem dX13_addLocker_61 : decode cX13_addLocker 61 = .ok (.invokevirtual 120, 3) := by decide +kernel
theorem dX13_addLocker_64 : decode cX13_addLocker 64 = .ok (.ireturn, 1) := by decide +kernel
theorem dX13_addLocker_65 : decode cX13_addLocker 65 = .ok (.aload_n 0, 1) := by decide +kernel
theorem dX13_addLocker_66 : decode cX13_addLocker 66 = .ok (.getfield 35, 3) := by decide +kernel
theorem dX13_addLocker_69 : decode cX13_addLocker 69 = .ok (.aload_n 0, 1) := by decide +kernel
theorem dX13_addLocker_70 : decode cX13_addLocker 70 = .ok (.getfield 111, 3) := by decide +kernel
theorem dX13_addLocker_73 : decode cX13_addLocker 73 = .ok (.iload_n 1, 1) := by decide +kernel
theorem dX13_addLocker_74 : decode cX13_addLocker 74 = .ok (.iastore, 1) := by decide +kernel
theorem dX13_addLocker_75 : decode cX13_addLocker 75 = .ok (.aload_n 0, 1) := by decide +kernel
theorem dX13_addLocker_76 : decode cX13_addLocker 76 = .ok (.getfield 38, 3) := by decide +kernel
theorem dX13_addLocker_79 : decode cX13_addLocker 79 = .ok (.aload_n 0, 1) := by decide +kernel
theorem dX13_addLocker_80 : decode cX13_addLocker 80 = .ok (.getfield 111, 3) := by decide +kernel
theorem dX13_addLocker_83 : decode cX13_addLocker 83 = .ok (.iload_n 2, 1) := by decide +kernel
theorem dX13_addLocker_84 : decode cX13_addLocker 84 = .ok (.iastore, 1) := by decide +kernel
theorem dX13_addLocker_85 : decode cX13_addLocker 85 = .ok (.iconst 3, 1) := by decide +kernel
theorem dX13_addLocker_86 : decode cX13_addLocker 86 = .ok (.newarray .int, 2) := by decide +kernel
theorem dX13_addLocker_88 : decode cX13_addLocker 88 = .ok (.dup, 1) := by decide +kernel
theorem dX13_addLocker_89 : decode cX13_addLocker 89 = .ok (.iconst 0, 1) := by decide +kernel
theorem dX13_addLocker_90 : decode cX13_addLocker 90 = .ok (.iload_n 3, 1) := by decide +kernel
theorem dX13_addLocker_91 : decode cX13_addLocker 91 = .ok (.iastore, 1) := by decide +kernel
theorem dX13_addLocker_92 : decode cX13_addLocker 92 = .ok (.dup, 1) := by decide +kernel
theorem dX13_addLocker_93 : decode cX13_addLocker 93 = .ok (.iconst 1, 1) := by decide +kernel
theorem dX13_addLocker_94 : decode cX13_addLocker 94 = .ok (.iload 4, 2) := by decide +kernel
theorem dX13_addLocker_96 : decode cX13_addLocker 96 = .ok (.iastore, 1) := by decide +kernel
theorem dX13_addLocker_97 : decode cX13_addLocker 97 = .ok (.dup, 1) := by decide +kernel
theorem dX13_addLocker_98 : decode cX13_addLocker 98 = .ok (.iconst 2, 1) := by decide +kernel
theorem dX13_addLocker_99 : decode cX13_addLocker 99 = .ok (.iload 5, 2) := by decide +kernel
theorem dX13_addLocker_101 : decode cX13_addLocker 101 = .ok (.iastore, 1) := by decide +kernel
theorem dX13_addLocker_102 : decode cX13_addLocker 102 = .ok (.astore 6, 2) := by decide +kernel
theorem dX13_addLocker_104 : decode cX13_addLocker 104 = .ok (.aload 6, 2) := by decide +kernel
theorem dX13_addLocker_106 : decode cX13_addLocker 106 = .ok (.iconst 0, 1) := by decide +kernel
theorem dX13_addLocker_107 : decode cX13_addLocker 107 = .ok (.aload_n 0, 1) := by decide +kernel
theorem dX13_addLocker_108 : decode cX13_addLocker 108 = .ok (.getfield 70, 3) := by decide +kernel
theorem dX13_addLocker_111 : decode cX13_addLocker 111 = .ok (.getfield 135, 3) := by decide +kernel
theorem dX13_addLocker_114 : decode cX13_addLocker 114 = .ok (.iconst 3, 1) := by decide +kernel
theorem dX13_addLocker_115 : decode cX13_addLocker 115 = .ok (.aload_n 0, 1) := by decide +kernel
theorem dX13_addLocker_116 : decode cX13_addLocker 116 = .ok (.getfield 111, 3) := by decide +kernel
theorem dX13_addLocker_119 : decode cX13_addLocker 119 = .ok (.imul, 1) := by decide +kernel
theorem dX13_addLocker_120 : decode cX13_addLocker 120 = .ok (.iconst 3, 1) := by decide +kernel
theorem dX13_addLocker_121 : decode cX13_addLocker 121 = .ok (.invokestatic 138, 3) := by decide +kernel
theorem dX13_addLocker_124 : decode cX13_addLocker 124 = .ok (.aload_n 0, 1) := by decide +kernel
theorem dX13_addLocker_125 : decode cX13_addLocker 125 = .ok (.dup, 1) := by decide +kernel
theorem dX13_addLocker_126 : decode cX13_addLocker 126 = .ok (.getfield 111, 3) := by decide +kernel
theorem dX13_addLocker_129 : decode cX13_addLocker 129 = .ok (.iconst 1, 1) := by decide +kernel
theorem dX13_addLocker_130 : decode cX13_addLocker 130 = .ok (.iadd, 1) := by decide +kernel
theorem dX13_addLocker_131 : decode cX13_addLocker 131 = .ok (.putfield 111, 3) := by decide +kernel
theorem dX13_addLocker_134 : decode cX13_addLocker 134 = .ok (.aload_n 0, 1) := by decide +kernel
theorem dX13_addLocker_135 : decode cX13_addLocker 135 = .ok (.getfield 111, 3) := by decide +kernel
theorem dX13_addLocker_138 : decode cX13_addLocker 138 = .ok (.iconst 1, 1) := by decide +kernel
theorem dX13_addLocker_139 : decode cX13_addLocker 139 = .ok (.isub, 1) := by decide +kernel
theorem dX13_addLocker_140 : decode cX13_addLocker 140 = .ok (.ireturn, 1) := by decide +kernel
theorem dX13_addVan_0 : decode cX13_addVan 0 = .ok (.aload_n 0, 1) := by decide +kernel
theorem dX13_addVan_1 : decode cX13_addVan 1 = .ok (.iconst 0, 1) := by decide +kernel
theorem dX13_addVan_2 : decode cX13_addVan 2 = .ok (.putfield 95, 3) := by decide +kernel
theorem dX13_addVan_5 : decode cX13_addVan 5 = .ok (.iload_n 1, 1) := by decide +kernel
theorem dX13_addVan_6 : decode cX13_addVan 6 = .ok (.bipush 10, 2) := by decide +kernel
theorem dX13_addVan_8 : decode cX13_addVan 8 = .ok (.sipush 200, 3) := by decide +kernel
theorem dX13_addVan_11 : decode cX13_addVan 11 = .ok (.invokestatic 98, 3) := by decide +kernel
theorem dX13_addVan_14 : decode cX13_addVan 14 = .ok (.ifCond .eq 25, 3) := by decide +kernel
theorem dX13_addVan_17 : decode cX13_addVan 17 = .ok (.iload_n 2, 1) := by decide +kernel
theorem dX13_addVan_18 : decode cX13_addVan 18 = .ok (.iconst 0, 1) := by decide +kernel
theorem dX13_addVan_19 : decode cX13_addVan 19 = .ok (.sipush 1439, 3) := by decide +kernel
theorem dX13_addVan_22 : decode cX13_addVan 22 = .ok (.invokestatic 98, 3) := by decide +kernel
theorem dX13_addVan_25 : decode cX13_addVan 25 = .ok (.ifCond .eq 14, 3) := by decide +kernel
theorem dX13_addVan_28 : decode cX13_addVan 28 = .ok (.iload_n 3, 1) := by decide +kernel
theorem dX13_addVan_29 : decode cX13_addVan 29 = .ok (.iload_n 2, 1) := by decide +kernel
theorem dX13_addVan_30 : decode cX13_addVan 30 = .ok (.sipush 1439, 3) := by decide +kernel
theorem dX13_addVan_33 : decode cX13_addVan 33 = .ok (.invokestatic 98, 3) := by decide +kernel
theorem dX13_addVan_36 : decode cX13_addVan 36 = .ok (.ifCond .ne 9, 3) := by decide +kernel
theorem dX13_addVan_39 : decode cX13_addVan 39 = .ok (.aload_n 0, 1) := by decide +kernel
theorem dX13_addVan_40 : decode cX13_addVan 40 = .ok (.iconst 1, 1) := by decide +kernel
theorem dX13_addVan_41 : decode cX13_addVan 41 = .ok (.invokevirtual 120, 3) := by decide +kernel
theorem dX13_addVan_44 : decode cX13_addVan 44 = .ok (.ireturn, 1) := by decide +kernel
theorem dX13_addVan_45 : decode cX13_addVan 45 = .ok (.aload_n 0, 1) := by decide +kernel
theorem dX13_addVan_46 : decode cX13_addVan 46 = .ok (.getfield 114, 3) := by decide +kernel
theorem dX13_addVan_49 : decode cX13_addVan 49 = .ok (.iconst 4, 1) := by decide +kernel
theorem dX13_addVan_50 : decode cX13_addVan 50 = .ok (.if_icmp .ne 9, 3) := by decide +kernel
theorem dX13_addVan_53 : decode cX13_addVan 53 = .ok (.aload_n 0, 1) := by decide +kernel
theorem dX13_addVan_54 : decode cX13_addVan 54 = .ok (.iconst 2, 1) := by decide +kernel
theorem dX13_addVan_55 : decode cX13_addVan 55 = .ok (.invokevirtual 120, 3) := by decide +kernel
theorem dX13_addVan_58 : decode cX13_addVan 58 = .ok (.ireturn, 1) := by decide +kernel
theorem dX13_addVan_59 : decode cX13_addVan 59 = .ok (.aload_n 0, 1) := by decide +kernel
theorem dX13_addVan_60 : decode cX13_addVan 60 = .ok (.getfield 41, 3) := by decide +kernel
theorem dX13_addVan_63 : decode cX13_addVan 63 = .ok (.aload_n 0, 1) := by decide +kernel
theorem dX13_addVan_64 : decode cX13_addVan 64 = .ok (.getfield 114, 3) := by decide +kernel
theorem dX13_addVan_67 : decode cX13_addVan 67 = .ok (.iload_n 1, 1) := by decide +kernel
theorem dX13_addVan_68 : decode cX13_addVan 68 = .ok (.iastore, 1) := by decide +kernel
theorem dX13_addVan_69 : decode cX13_addVan 69 = .ok (.aload_n 0, 1) := by decide +kernel
theorem dX13_addVan_70 : decode cX13_addVan 70 = .ok (.getfield 44, 3) := by decide +kernel
theorem dX13_addVan_73 : decode cX13_addVan 73 = .ok (.aload_n 0, 1) := by decide +kernel
theorem dX13_addVan_74 : decode cX13_addVan 74 = .ok (.getfield 114, 3) := by decide +kernel
theorem dX13_addVan_77 : decode cX13_addVan 77 = .ok (.iload_n 2, 1) := by decide +kernel
theorem dX13_addVan_78 : decode cX13_addVan 78 = .ok (.iastore, 1) := by decide +kernel
theorem dX13_addVan_79 : decode cX13_addVan 79 = .ok (.aload_n 0, 1) := by decide +kernel
theorem dX13_addVan_80 : decode cX13_addVan 80 = .ok (.getfield 47, 3) := by decide +kernel
theorem dX13_addVan_83 : decode cX13_addVan 83 = .ok (.aload_n 0, 1) := by decide +kernel
theorem dX13_addVan_84 : decode cX13_addVan 84 = .ok (.getfield 114, 3) := by decide +kernel
theorem dX13_addVan_87 : decode cX13_addVan 87 = .ok (.iload_n 3, 1) := by decide +kernel
theorem dX13_addVan_88 : decode cX13_addVan 88 = .ok (.iastore, 1) := by decide +kernel
theorem dX13_addVan_89 : decode cX13_addVan 89 = .ok (.aload_n 0, 1) := by decide +kernel
theorem dX13_addVan_90 : decode cX13_addVan 90 = .ok (.dup, 1) := by decide +kernel
theorem dX13_addVan_91 : decode cX13_addVan 91 = .ok (.getfield 114, 3) := by decide +kernel
theorem dX13_addVan_94 : decode cX13_addVan 94 = .ok (.iconst 1, 1) := by decide +kernel
theorem dX13_addVan_95 : decode cX13_addVan 95 = .ok (.iadd, 1) := by decide +kernel
theorem dX13_addVan_96 : decode cX13_addVan 96 = .ok (.putfield 114, 3) := by decide +kernel
theorem dX13_addVan_99 : decode cX13_addVan 99 = .ok (.aload_n 0, 1) := by decide +kernel
theorem dX13_addVan_100 : decode cX13_addVan 100 = .ok (.getfield 114, 3) := by decide +kernel
theorem dX13_addVan_103 : decode cX13_addVan 103 = .ok (.iconst 1, 1) := by decide +kernel
theorem dX13_addVan_104 : decode cX13_addVan 104 = .ok (.isub, 1) := by decide +kernel
theorem dX13_addVan_105 : decode cX13_addVan 105 = .ok (.ireturn, 1) := by decide +kernel
theorem dX13_addParcel_0 : decode cX13_addParcel 0 = .ok (.aload_n 0, 1) := by decide +kernel
theorem dX13_addParcel_1 : decode cX13_addParcel 1 = .ok (.iconst 0, 1) := by decide +kernel
theorem dX13_addParcel_2 : decode cX13_addParcel 2 = .ok (.putfield 95, 3) := by decide +kernel
theorem dX13_addParcel_5 : decode cX13_addParcel 5 = .ok (.iload_n 1, 1) := by decide +kernel
theorem dX13_addParcel_6 : decode cX13_addParcel 6 = .ok (.iconst 0, 1) := by decide +kernel
theorem dX13_addParcel_7 : decode cX13_addParcel 7 = .ok (.iconst 2, 1) := by decide +kernel
theorem dX13_addParcel_8 : decode cX13_addParcel 8 = .ok (.invokestatic 98, 3) := by decide +kernel
theorem dX13_addParcel_11 : decode cX13_addParcel 11 = .ok (.ifCond .eq 38, 3) := by decide +kernel
theorem dX13_addParcel_14 : decode cX13_addParcel 14 = .ok (.iload_n 2, 1) := by decide +kernel
theorem dX13_addParcel_15 : decode cX13_addParcel 15 = .ok (.iconst 1, 1) := by decide +kernel
theorem dX13_addParcel_16 : decode cX13_addParcel 16 = .ok (.bipush 40, 2) := by decide +kernel
theorem dX13_addParcel_18 : decode cX13_addParcel 18 = .ok (.invokestatic 98, 3) := by decide +kernel
theorem dX13_addParcel_21 : decode cX13_addParcel 21 = .ok (.ifCond .eq 28, 3) := by decide +kernel
theorem dX13_addParcel_24 : decode cX13_addParcel 24 = .ok (.iload 4, 2) := by decide +kernel
theorem dX13_addParcel_26 : decode cX13_addParcel 26 = .ok (.iconst 0, 1) := by decide +kernel
theorem dX13_addParcel_27 : decode cX13_addParcel 27 = .ok (.sipush 1439, 3) := by decide +kernel
theorem dX13_addParcel_30 : decode cX13_addParcel 30 = .ok (.invokestatic 98, 3) := by decide +kernel
theorem dX13_addParcel_33 : decode cX13_addParcel 33 = .ok (.ifCond .eq 16, 3) := by decide +kernel
theorem dX13_addParcel_36 : decode cX13_addParcel 36 = .ok (.iload 5, 2) := by decide +kernel
theorem dX13_addParcel_38 : decode cX13_addParcel 38 = .ok (.iload 4, 2) := by decide +kernel
theorem dX13_addParcel_40 : decode cX13_addParcel 40 = .ok (.sipush 1439, 3) := by decide +kernel
theorem dX13_addParcel_43 : decode cX13_addParcel 43 = .ok (.invokestatic 98, 3) := by decide +kernel
theorem dX13_addParcel_46 : decode cX13_addParcel 46 = .ok (.ifCond .ne 9, 3) := by decide +kernel
theorem dX13_addParcel_49 : decode cX13_addParcel 49 = .ok (.aload_n 0, 1) := by decide +kernel
theorem dX13_addParcel_50 : decode cX13_addParcel 50 = .ok (.iconst 1, 1) := by decide +kernel
theorem dX13_addParcel_51 : decode cX13_addParcel 51 = .ok (.invokevirtual 120, 3) := by decide +kernel
theorem dX13_addParcel_54 : decode cX13_addParcel 54 = .ok (.ireturn, 1) := by decide +kernel
theorem dX13_addParcel_55 : decode cX13_addParcel 55 = .ok (.aload_n 0, 1) := by decide +kernel
theorem dX13_addParcel_56 : decode cX13_addParcel 56 = .ok (.iload_n 3, 1) := by decide +kernel
theorem dX13_addParcel_57 : decode cX13_addParcel 57 = .ok (.invokevirtual 128, 3) := by decide +kernel
theorem dX13_addParcel_60 : decode cX13_addParcel 60 = .ok (.ifCond .ne 9, 3) := by decide +kernel
theorem dX13_addParcel_63 : decode cX13_addParcel 63 = .ok (.aload_n 0, 1) := by decide +kernel
theorem dX13_addParcel_64 : decode cX13_addParcel 64 = .ok (.iconst 2, 1) := by decide +kernel
theorem dX13_addParcel_65 : decode cX13_addParcel 65 = .ok (.invokevirtual 120, 3) := by decide +kernel
theorem dX13_addParcel_68 : decode cX13_addParcel 68 = .ok (.ireturn, 1) := by decide +kernel
theorem dX13_addParcel_69 : decode cX13_addParcel 69 = .ok (.aload_n 0, 1) := by decide +kernel
theorem dX13_addParcel_70 : decode cX13_addParcel 70 = .ok (.getfield 117, 3) := by decide +kernel
theorem dX13_addParcel_73 : decode cX13_addParcel 73 = .ok (.bipush 30, 2) := by decide +kernel
theorem dX13_addParcel_75 : decode cX13_addParcel 75 = .ok (.if_icmp .ne 9, 3) := by decide +kernel
theorem dX13_addParcel_78 : decode cX13_addParcel 78 = .ok (.aload_n 0, 1) := by decide +kernel
theorem dX13_addParcel_79 : decode cX13_addParcel 79 = .ok (.iconst 3, 1) := by decide +kernel
theorem dX13_addParcel_80 : decode cX13_addParcel 80 = .ok (.invokevirtual 120, 3) := by decide +kernel
theorem dX13_addParcel_83 : decode cX13_addParcel 83 = .ok (.ireturn, 1) := by decide +kernel
theorem dX13_addParcel_84 : decode cX13_addParcel 84 = .ok (.aload_n 0, 1) := by decide +kernel
theorem dX13_addParcel_85 : decode cX13_addParcel 85 = .ok (.getfield 50, 3) := by decide +kernel
theorem dX13_addParcel_88 : decode cX13_addParcel 88 = .ok (.aload_n 0, 1) := by decide +kernel
theorem dX13_addParcel_89 : decode cX13_addParcel 89 = .ok (.getfield 117, 3) := by decide +kernel
theorem dX13_addParcel_92 : decode cX13_addParcel 92 = .ok (.iload_n 1, 1) := by decide +kernel
theorem dX13_addParcel_93 : decode cX13_addParcel 93 = .ok (.iastore, 1) := by decide +kernel
theorem dX13_addParcel_94 : decode cX13_addParcel 94 = .ok (.aload_n 0, 1) := by decide +kernel
theorem dX13_addParcel_95 : decode cX13_addParcel 95 = .ok (.getfield 53, 3) := by decide +kernel
theorem dX13_addParcel_98 : decode cX13_addParcel 98 = .ok (.aload_n 0, 1) := by decide +kernel
theorem dX13_addParcel_99 : decode cX13_addParcel 99 = .ok (.getfield 117, 3) := by decide +kernel
theorem dX13_addParcel_102 : decode cX13_addParcel 102 = .ok (.iload_n 2, 1) := by decide +kernel
theorem dX13_addParcel_103 : decode cX13_addParcel 103 = .ok (.iastore, 1) := by decide +kernel
theorem dX13_addParcel_104 : decode cX13_addParcel 104 = .ok (.aload_n 0, 1) := by decide +kernel
theorem dX13_addParcel_105 : decode cX13_addParcel 105 = .ok (.getfield 56, 3) := by decide +kernel
theorem dX13_addParcel_108 : decode cX13_addParcel 108 = .ok (.aload_n 0, 1) := by decide +kernel
theorem dX13_addParcel_109 : decode cX13_addParcel 109 = .ok (.getfield 117, 3) := by decide +kernel
theorem dX13_addParcel_112 : decode cX13_addParcel 112 = .ok (.iload_n 3, 1) := by decide +kernel
theorem dX13_addParcel_113 : decode cX13_addParcel 113 = .ok (.iastore, 1) := by decide +kernel
theorem dX13_addParcel_114 : decode cX13_addParcel 114 = .ok (.aload_n 0, 1) := by decide +kernel
theorem dX13_addParcel_115 : decode cX13_addParcel 115 = .ok (.getfield 59, 3) := by decide +kernel
theorem dX13_addParcel_118 : decode cX13_addParcel 118 = .ok (.aload_n 0, 1) := by decide +kernel
theorem dX13_addParcel_119 : decode cX13_addParcel 119 = .ok (.getfield 117, 3) := by decide +kernel
theorem dX13_addParcel_122 : decode cX13_addParcel 122 = .ok (.iload 4, 2) := by decide +kernel
theorem dX13_addParcel_124 : decode cX13_addParcel 124 = .ok (.iastore, 1) := by decide +kernel
theorem dX13_addParcel_125 : decode cX13_addParcel 125 = .ok (.aload_n 0, 1) := by decide +kernel
theorem dX13_addParcel_126 : decode cX13_addParcel 126 = .ok (.getfield 62, 3) := by decide +kernel
theorem dX13_addParcel_129 : decode cX13_addParcel 129 = .ok (.aload_n 0, 1) := by decide +kernel
theorem dX13_addParcel_130 : decode cX13_addParcel 130 = .ok (.getfield 117, 3) := by decide +kernel
theorem dX13_addParcel_133 : decode cX13_addParcel 133 = .ok (.iload 5, 2) := by decide +kernel
theorem dX13_addParcel_135 : decode cX13_addParcel 135 = .ok (.iastore, 1) := by decide +kernel
theorem dX13_addParcel_136 : decode cX13_addParcel 136 = .ok (.aload_n 0, 1) := by decide +kernel
theorem dX13_addParcel_137 : decode cX13_addParcel 137 = .ok (.getfield 70, 3) := by decide +kernel
theorem dX13_addParcel_140 : decode cX13_addParcel 140 = .ok (.getfield 144, 3) := by decide +kernel
theorem dX13_addParcel_143 : decode cX13_addParcel 143 = .ok (.aload_n 0, 1) := by decide +kernel
theorem dX13_addParcel_144 : decode cX13_addParcel 144 = .ok (.getfield 117, 3) := by decide +kernel
theorem dX13_addParcel_147 : decode cX13_addParcel 147 = .ok (.iconst (-1), 1) := by decide +kernel
theorem dX13_addParcel_148 : decode cX13_addParcel 148 = .ok (.iastore, 1) := by decide +kernel
theorem dX13_addParcel_149 : decode cX13_addParcel 149 = .ok (.aload_n 0, 1) := by decide +kernel
theorem dX13_addParcel_150 : decode cX13_addParcel 150 = .ok (.dup, 1) := by decide +kernel
theorem dX13_addParcel_151 : decode cX13_addParcel 151 = .ok (.getfield 117, 3) := by decide +kernel
theorem dX13_addParcel_154 : decode cX13_addParcel 154 = .ok (.iconst 1, 1) := by decide +kernel
theorem dX13_addParcel_155 : decode cX13_addParcel 155 = .ok (.iadd, 1) := by decide +kernel
theorem dX13_addParcel_156 : decode cX13_addParcel 156 = .ok (.putfield 117, 3) := by decide +kernel
theorem dX13_addParcel_159 : decode cX13_addParcel 159 = .ok (.aload_n 0, 1) := by decide +kernel
theorem dX13_addParcel_160 : decode cX13_addParcel 160 = .ok (.getfield 117, 3) := by decide +kernel
theorem dX13_addParcel_163 : decode cX13_addParcel 163 = .ok (.iconst 1, 1) := by decide +kernel
theorem dX13_addParcel_164 : decode cX13_addParcel 164 = .ok (.isub, 1) := by decide +kernel
theorem dX13_addParcel_165 : decode cX13_addParcel 165 = .ok (.ireturn, 1) := by decide +kernel
theorem dX13_homeTold_0 : decode cX13_homeTold 0 = .ok (.iconst 0, 1) := by decide +kernel
theorem dX13_homeTold_1 : decode cX13_homeTold 1 = .ok (.istore_n 3, 1) := by decide +kernel
theorem dX13_homeTold_2 : decode cX13_homeTold 2 = .ok (.iconst 0, 1) := by decide +kernel
theorem dX13_homeTold_3 : decode cX13_homeTold 3 = .ok (.istore 4, 2) := by decide +kernel
theorem dX13_homeTold_5 : decode cX13_homeTold 5 = .ok (.iconst 0, 1) := by decide +kernel
theorem dX13_homeTold_6 : decode cX13_homeTold 6 = .ok (.istore 5, 2) := by decide +kernel
theorem dX13_homeTold_8 : decode cX13_homeTold 8 = .ok (.iload 5, 2) := by decide +kernel
theorem dX13_homeTold_10 : decode cX13_homeTold 10 = .ok (.aload_n 0, 1) := by decide +kernel
theorem dX13_homeTold_11 : decode cX13_homeTold 11 = .ok (.getfield 117, 3) := by decide +kernel
theorem dX13_homeTold_14 : decode cX13_homeTold 14 = .ok (.if_icmp .ge 79, 3) := by decide +kernel
theorem dX13_homeTold_17 : decode cX13_homeTold 17 = .ok (.iload_n 3, 1) := by decide +kernel
theorem dX13_homeTold_18 : decode cX13_homeTold 18 = .ok (.aload_n 0, 1) := by decide +kernel
theorem dX13_homeTold_19 : decode cX13_homeTold 19 = .ok (.getfield 56, 3) := by decide +kernel
theorem dX13_homeTold_22 : decode cX13_homeTold 22 = .ok (.iload 5, 2) := by decide +kernel
theorem dX13_homeTold_24 : decode cX13_homeTold 24 = .ok (.iaload, 1) := by decide +kernel
theorem dX13_homeTold_25 : decode cX13_homeTold 25 = .ok (.iload_n 1, 1) := by decide +kernel
theorem dX13_homeTold_26 : decode cX13_homeTold 26 = .ok (.if_icmp .ne 20, 3) := by decide +kernel
theorem dX13_homeTold_29 : decode cX13_homeTold 29 = .ok (.aload_n 0, 1) := by decide +kernel
theorem dX13_homeTold_30 : decode cX13_homeTold 30 = .ok (.getfield 70, 3) := by decide +kernel
theorem dX13_homeTold_33 : decode cX13_homeTold 33 = .ok (.getfield 147, 3) := by decide +kernel
theorem dX13_homeTold_36 : decode cX13_homeTold 36 = .ok (.iload 5, 2) := by decide +kernel
theorem dX13_homeTold_38 : decode cX13_homeTold 38 = .ok (.iaload, 1) := by decide +kernel
theorem dX13_homeTold_39 : decode cX13_homeTold 39 = .ok (.ifCond .ne 7, 3) := by decide +kernel
theorem dX13_homeTold_42 : decode cX13_homeTold 42 = .ok (.iconst 1, 1) := by decide +kernel
theorem dX13_homeTold_43 : decode cX13_homeTold 43 = .ok (.goto 4, 3) := by decide +kernel
theorem dX13_homeTold_46 : decode cX13_homeTold 46 = .ok (.iconst 0, 1) := by decide +kernel
theorem dX13_homeTold_47 : decode cX13_homeTold 47 = .ok (.iadd, 1) := by decide +kernel
theorem dX13_homeTold_48 : decode cX13_homeTold 48 = .ok (.istore_n 3, 1) := by decide +kernel
theorem dX13_homeTold_49 : decode cX13_homeTold 49 = .ok (.iload 4, 2) := by decide +kernel
theorem dX13_homeTold_51 : decode cX13_homeTold 51 = .ok (.aload_n 0, 1) := by decide +kernel
theorem dX13_homeTold_52 : decode cX13_homeTold 52 = .ok (.getfield 70, 3) := by decide +kernel
theorem dX13_homeTold_55 : decode cX13_homeTold 55 = .ok (.getfield 147, 3) := by decide +kernel
theorem dX13_homeTold_58 : decode cX13_homeTold 58 = .ok (.iload 5, 2) := by decide +kernel
theorem dX13_homeTold_60 : decode cX13_homeTold 60 = .ok (.iaload, 1) := by decide +kernel
theorem dX13_homeTold_61 : decode cX13_homeTold 61 = .ok (.iconst 3, 1) := by decide +kernel
theorem dX13_homeTold_62 : decode cX13_homeTold 62 = .ok (.if_icmp .ne 21, 3) := by decide +kernel
theorem dX13_homeTold_65 : decode cX13_homeTold 65 = .ok (.aload_n 0, 1) := by decide +kernel
theorem dX13_homeTold_66 : decode cX13_homeTold 66 = .ok (.getfield 70, 3) := by decide +kernel
theorem dX13_homeTold_69 : decode cX13_homeTold 69 = .ok (.getfield 144, 3) := by decide +kernel
theorem dX13_homeTold_72 : decode cX13_homeTold 72 = .ok (.iload 5, 2) := by decide +kernel
theorem dX13_homeTold_74 : decode cX13_homeTold 74 = .ok (.iaload, 1) := by decide +kernel
theorem dX13_homeTold_75 : decode cX13_homeTold 75 = .ok (.iload_n 1, 1) := by decide +kernel
theorem dX13_homeTold_76 : decode cX13_homeTold 76 = .ok (.if_icmp .ne 7, 3) := by decide +kernel
theorem dX13_homeTold_79 : decode cX13_homeTold 79 = .ok (.iconst 1, 1) := by decide +kernel
theorem dX13_homeTold_80 : decode cX13_homeTold 80 = .ok (.goto 4, 3) := by decide +kernel
theorem dX13_homeTold_83 : decode cX13_homeTold 83 = .ok (.iconst 0, 1) := by decide +kernel
theorem dX13_homeTold_84 : decode cX13_homeTold 84 = .ok (.iadd, 1) := by decide +kernel
theorem dX13_homeTold_85 : decode cX13_homeTold 85 = .ok (.istore 4, 2) := by decide +kernel
theorem dX13_homeTold_87 : decode cX13_homeTold 87 = .ok (.iinc 5 1, 3) := by decide +kernel
theorem dX13_homeTold_90 : decode cX13_homeTold 90 = .ok (.goto (-82), 3) := by decide +kernel
theorem dX13_homeTold_93 : decode cX13_homeTold 93 = .ok (.bipush 6, 2) := by decide +kernel
theorem dX13_homeTold_95 : decode cX13_homeTold 95 = .ok (.newarray .int, 2) := by decide +kernel
theorem dX13_homeTold_97 : decode cX13_homeTold 97 = .ok (.dup, 1) := by decide +kernel
theorem dX13_homeTold_98 : decode cX13_homeTold 98 = .ok (.iconst 0, 1) := by decide +kernel
theorem dX13_homeTold_99 : decode cX13_homeTold 99 = .ok (.aload_n 0, 1) := by decide +kernel
theorem dX13_homeTold_100 : decode cX13_homeTold 100 = .ok (.getfield 20, 3) := by decide +kernel
theorem dX13_homeTold_103 : decode cX13_homeTold 103 = .ok (.iload_n 1, 1) := by decide +kernel
theorem dX13_homeTold_104 : decode cX13_homeTold 104 = .ok (.iaload, 1) := by decide +kernel
theorem dX13_homeTold_105 : decode cX13_homeTold 105 = .ok (.iastore, 1) := by decide +kernel
theorem dX13_homeTold_106 : decode cX13_homeTold 106 = .ok (.dup, 1) := by decide +kernel
theorem dX13_homeTold_107 : decode cX13_homeTold 107 = .ok (.iconst 1, 1) := by decide +kernel
theorem dX13_homeTold_108 : decode cX13_homeTold 108 = .ok (.aload_n 0, 1) := by decide +kernel
theorem dX13_homeTold_109 : decode cX13_homeTold 109 = .ok (.getfield 23, 3) := by decide +kernel
theorem dX13_homeTold_112 : decode cX13_homeTold 112 = .ok (.iload_n 1, 1) := by decide +kernel
theorem dX13_homeTold_113 : decode cX13_homeTold 113 = .ok (.iaload, 1) := by decide +kernel
theorem dX13_homeTold_114 : decode cX13_homeTold 114 = .ok (.iastore, 1) := by decide +kernel
theorem dX13_homeTold_115 : decode cX13_homeTold 115 = .ok (.dup, 1) := by decide +kernel
theorem dX13_homeTold_116 : decode cX13_homeTold 116 = .ok (.iconst 2, 1) := by decide +kernel
theorem dX13_homeTold_117 : decode cX13_homeTold 117 = .ok (.aload_n 0, 1) := by decide +kernel
theorem dX13_homeTold_118 : decode cX13_homeTold 118 = .ok (.getfield 26, 3) := by decide +kernel
theorem dX13_homeTold_121 : decode cX13_homeTold 121 = .ok (.iload_n 1, 1) := by decide +kernel
theorem dX13_homeTold_122 : decode cX13_homeTold 122 = .ok (.iaload, 1) := by decide +kernel
theorem dX13_homeTold_123 : decode cX13_homeTold 123 = .ok (.iastore, 1) := by decide +kernel
theorem dX13_homeTold_124 : decode cX13_homeTold 124 = .ok (.dup, 1) := by decide +kernel
theorem dX13_homeTold_125 : decode cX13_homeTold 125 = .ok (.iconst 3, 1) := by decide +kernel
theorem dX13_homeTold_126 : decode cX13_homeTold 126 = .ok (.aload_n 0, 1) := by decide +kernel
theorem dX13_homeTold_127 : decode cX13_homeTold 127 = .ok (.getfield 29, 3) := by decide +kernel
theorem dX13_homeTold_130 : decode cX13_homeTold 130 = .ok (.iload_n 1, 1) := by decide +kernel
theorem dX13_homeTold_131 : decode cX13_homeTold 131 = .ok (.iaload, 1) := by decide +kernel
theorem dX13_homeTold_132 : decode cX13_homeTold 132 = .ok (.iastore, 1) := by decide +kernel
theorem dX13_homeTold_133 : decode cX13_homeTold 133 = .ok (.dup, 1) := by decide +kernel
theorem dX13_homeTold_134 : decode cX13_homeTold 134 = .ok (.iconst 4, 1) := by decide +kernel
theorem dX13_homeTold_135 : decode cX13_homeTold 135 = .ok (.iload_n 3, 1) := by decide +kernel
theorem dX13_homeTold_136 : decode cX13_homeTold 136 = .ok (.iastore, 1) := by decide +kernel
theorem dX13_homeTold_137 : decode cX13_homeTold 137 = .ok (.dup, 1) := by decide +kernel
theorem dX13_homeTold_138 : decode cX13_homeTold 138 = .ok (.iconst 5, 1) := by decide +kernel
theorem dX13_homeTold_139 : decode cX13_homeTold 139 = .ok (.iload 4, 2) := by decide +kernel
theorem dX13_homeTold_141 : decode cX13_homeTold 141 = .ok (.iastore, 1) := by decide +kernel
theorem dX13_homeTold_142 : decode cX13_homeTold 142 = .ok (.astore 5, 2) := by decide +kernel
theorem dX13_homeTold_144 : decode cX13_homeTold 144 = .ok (.aload 5, 2) := by decide +kernel
theorem dX13_homeTold_146 : decode cX13_homeTold 146 = .ok (.iload_n 2, 1) := by decide +kernel
theorem dX13_homeTold_147 : decode cX13_homeTold 147 = .ok (.iaload, 1) := by decide +kernel
theorem dX13_homeTold_148 : decode cX13_homeTold 148 = .ok (.ireturn, 1) := by decide +kernel
theorem dX13_home_0 : decode cX13_home 0 = .ok (.aload_n 0, 1) := by decide +kernel
theorem dX13_home_1 : decode cX13_home 1 = .ok (.iconst 0, 1) := by decide +kernel
theorem dX13_home_2 : decode cX13_home 2 = .ok (.putfield 95, 3) := by decide +kernel
theorem dX13_home_5 : decode cX13_home 5 = .ok (.aload_n 0, 1) := by decide +kernel
theorem dX13_home_6 : decode cX13_home 6 = .ok (.iload_n 1, 1) := by decide +kernel
theorem dX13_home_7 : decode cX13_home 7 = .ok (.invokevirtual 128, 3) := by decide +kernel
theorem dX13_home_10 : decode cX13_home 10 = .ok (.ifCond .eq 21, 3) := by decide +kernel
theorem dX13_home_13 : decode cX13_home 13 = .ok (.iload_n 2, 1) := by decide +kernel
theorem dX13_home_14 : decode cX13_home 14 = .ok (.iconst 0, 1) := by decide +kernel
theorem dX13_home_15 : decode cX13_home 15 = .ok (.iconst 5, 1) := by decide +kernel
theorem dX13_home_16 : decode cX13_home 16 = .ok (.invokestatic 98, 3) := by decide +kernel
theorem dX13_home_19 : decode cX13_home 19 = .ok (.ifCond .eq 12, 3) := by decide +kernel
theorem dX13_home_22 : decode cX13_home 22 = .ok (.aload_n 0, 1) := by decide +kernel
theorem dX13_home_23 : decode cX13_home 23 = .ok (.iload_n 1, 1) := by decide +kernel
theorem dX13_home_24 : decode cX13_home 24 = .ok (.iload_n 2, 1) := by decide +kernel
theorem dX13_home_25 : decode cX13_home 25 = .ok (.invokevirtual 150, 3) := by decide +kernel
theorem dX13_home_28 : decode cX13_home 28 = .ok (.goto 8, 3) := by decide +kernel
theorem dX13_home_31 : decode cX13_home 31 = .ok (.aload_n 0, 1) := by decide +kernel
theorem dX13_home_32 : decode cX13_home 32 = .ok (.iconst 1, 1) := by decide +kernel
theorem dX13_home_33 : decode cX13_home 33 = .ok (.invokevirtual 120, 3) := by decide +kernel
theorem dX13_home_36 : decode cX13_home 36 = .ok (.ireturn, 1) := by decide +kernel
theorem dX13_lockerTold_0 : decode cX13_lockerTold 0 = .ok (.iload_n 2, 1) := by decide +kernel
theorem dX13_lockerTold_1 : decode cX13_lockerTold 1 = .ok (.iconst 2, 1) := by decide +kernel
theorem dX13_lockerTold_2 : decode cX13_lockerTold 2 = .ok (.if_icmp .ge 23, 3) := by decide +kernel
theorem dX13_lockerTold_5 : decode cX13_lockerTold 5 = .ok (.iload_n 2, 1) := by decide +kernel
theorem dX13_lockerTold_6 : decode cX13_lockerTold 6 = .ok (.ifCond .ne 12, 3) := by decide +kernel
theorem dX13_lockerTold_9 : decode cX13_lockerTold 9 = .ok (.aload_n 0, 1) := by decide +kernel
theorem dX13_lockerTold_10 : decode cX13_lockerTold 10 = .ok (.getfield 35, 3) := by decide +kernel
theorem dX13_lockerTold_13 : decode cX13_lockerTold 13 = .ok (.iload_n 1, 1) := by decide +kernel
theorem dX13_lockerTold_14 : decode cX13_lockerTold 14 = .ok (.iaload, 1) := by decide +kernel
theorem dX13_lockerTold_15 : decode cX13_lockerTold 15 = .ok (.goto 9, 3) := by decide +kernel
theorem dX13_lockerTold_18 : decode cX13_lockerTold 18 = .ok (.aload_n 0, 1) := by decide +kernel
theorem dX13_lockerTold_19 : decode cX13_lockerTold 19 = .ok (.getfield 38, 3) := by decide +kernel
theorem dX13_lockerTold_22 : decode cX13_lockerTold 22 = .ok (.iload_n 1, 1) := by decide +kernel
theorem dX13_lockerTold_23 : decode cX13_lockerTold 23 = .ok (.iaload, 1) := by decide +kernel
theorem dX13_lockerTold_24 : decode cX13_lockerTold 24 = .ok (.ireturn, 1) := by decide +kernel
theorem dX13_lockerTold_25 : decode cX13_lockerTold 25 = .ok (.iload_n 2, 1) := by decide +kernel
theorem dX13_lockerTold_26 : decode cX13_lockerTold 26 = .ok (.iconst 5, 1) := by decide +kernel
theorem dX13_lockerTold_27 : decode cX13_lockerTold 27 = .ok (.if_icmp .ge 19, 3) := by decide +kernel
theorem dX13_lockerTold_30 : decode cX13_lockerTold 30 = .ok (.aload_n 0, 1) := by decide +kernel
theorem dX13_lockerTold_31 : decode cX13_lockerTold 31 = .ok (.getfield 70, 3) := by decide +kernel
theorem dX13_lockerTold_34 : decode cX13_lockerTold 34 = .ok (.getfield 135, 3) := by decide +kernel
theorem dX13_lockerTold_37 : decode cX13_lockerTold 37 = .ok (.iconst 3, 1) := by decide +kernel
theorem dX13_lockerTold_38 : decode cX13_lockerTold 38 = .ok (.iload_n 1, 1) := by decide +kernel
theorem dX13_lockerTold_39 : decode cX13_lockerTold 39 = .ok (.imul, 1) := by decide +kernel
theorem dX13_lockerTold_40 : decode cX13_lockerTold 40 = .ok (.iload_n 2, 1) := by decide +kernel
theorem dX13_lockerTold_41 : decode cX13_lockerTold 41 = .ok (.iadd, 1) := by decide +kernel
theorem dX13_lockerTold_42 : decode cX13_lockerTold 42 = .ok (.iconst 2, 1) := by decide +kernel
theorem dX13_lockerTold_43 : decode cX13_lockerTold 43 = .ok (.isub, 1) := by decide +kernel
theorem dX13_lockerTold_44 : decode cX13_lockerTold 44 = .ok (.iaload, 1) := by decide +kernel
theorem dX13_lockerTold_45 : decode cX13_lockerTold 45 = .ok (.ireturn, 1) := by decide +kernel
theorem dX13_lockerTold_46 : decode cX13_lockerTold 46 = .ok (.iconst 0, 1) := by decide +kernel
theorem dX13_lockerTold_47 : decode cX13_lockerTold 47 = .ok (.istore_n 3, 1) := by decide +kernel
theorem dX13_lockerTold_48 : decode cX13_lockerTold 48 = .ok (.iconst 0, 1) := by decide +kernel
theorem dX13_lockerTold_49 : decode cX13_lockerTold 49 = .ok (.istore 4, 2) := by decide +kernel
theorem dX13_lockerTold_51 : decode cX13_lockerTold 51 = .ok (.iload 4, 2) := by decide +kernel
theorem dX13_lockerTold_53 : decode cX13_lockerTold 53 = .ok (.aload_n 0, 1) := by decide +kernel
theorem dX13_lockerTold_54 : decode cX13_lockerTold 54 = .ok (.getfield 117, 3) := by decide +kernel
theorem dX13_lockerTold_57 : decode cX13_lockerTold 57 = .ok (.if_icmp .ge 45, 3) := by decide +kernel
theorem dX13_lockerTold_60 : decode cX13_lockerTold 60 = .ok (.iload_n 3, 1) := by decide +kernel
theorem dX13_lockerTold_61 : decode cX13_lockerTold 61 = .ok (.aload_n 0, 1) := by decide +kernel
theorem dX13_lockerTold_62 : decode cX13_lockerTold 62 = .ok (.getfield 70, 3) := by decide +kernel
theorem dX13_lockerTold_65 : decode cX13_lockerTold 65 = .ok (.getfield 147, 3) := by decide +kernel
theorem dX13_lockerTold_68 : decode cX13_lockerTold 68 = .ok (.iload 4, 2) := by decide +kernel
theorem dX13_lockerTold_70 : decode cX13_lockerTold 70 = .ok (.iaload, 1) := by decide +kernel
theorem dX13_lockerTold_71 : decode cX13_lockerTold 71 = .ok (.iconst 2, 1) := by decide +kernel
theorem dX13_lockerTold_72 : decode cX13_lockerTold 72 = .ok (.if_icmp .ne 21, 3) := by decide +kernel
theorem dX13_lockerTold_75 : decode cX13_lockerTold 75 = .ok (.aload_n 0, 1) := by decide +kernel
theorem dX13_lockerTold_76 : decode cX13_lockerTold 76 = .ok (.getfield 70, 3) := by decide +kernel
theorem dX13_lockerTold_79 : decode cX13_lockerTold 79 = .ok (.getfield 144, 3) := by decide +kernel
theorem dX13_lockerTold_82 : decode cX13_lockerTold 82 = .ok (.iload 4, 2) := by decide +kernel
theorem dX13_lockerTold_84 : decode cX13_lockerTold 84 = .ok (.iaload, 1) := by decide +kernel
theorem dX13_lockerTold_85 : decode cX13_lockerTold 85 = .ok (.iload_n 1, 1) := by decide +kernel
theorem dX13_lockerTold_86 : decode cX13_lockerTold 86 = .ok (.if_icmp .ne 7, 3) := by decide +kernel
theorem dX13_lockerTold_89 : decode cX13_lockerTold 89 = .ok (.iconst 1, 1) := by decide +kernel
theorem dX13_lockerTold_90 : decode cX13_lockerTold 90 = .ok (.goto 4, 3) := by decide +kernel
theorem dX13_lockerTold_93 : decode cX13_lockerTold 93 = .ok (.iconst 0, 1) := by decide +kernel
theorem dX13_lockerTold_94 : decode cX13_lockerTold 94 = .ok (.iadd, 1) := by decide +kernel
theorem dX13_lockerTold_95 : decode cX13_lockerTold 95 = .ok (.istore_n 3, 1) := by decide +kernel
theorem dX13_lockerTold_96 : decode cX13_lockerTold 96 = .ok (.iinc 4 1, 3) := by decide +kernel
theorem dX13_lockerTold_99 : decode cX13_lockerTold 99 = .ok (.goto (-48), 3) := by decide +kernel
theorem dX13_lockerTold_102 : decode cX13_lockerTold 102 = .ok (.iload_n 3, 1) := by decide +kernel
theorem dX13_lockerTold_103 : decode cX13_lockerTold 103 = .ok (.ireturn, 1) := by decide +kernel
theorem dX13_locker_0 : decode cX13_locker 0 = .ok (.aload_n 0, 1) := by decide +kernel
theorem dX13_locker_1 : decode cX13_locker 1 = .ok (.iconst 0, 1) := by decide +kernel
theorem dX13_locker_2 : decode cX13_locker 2 = .ok (.putfield 95, 3) := by decide +kernel
theorem dX13_locker_5 : decode cX13_locker 5 = .ok (.aload_n 0, 1) := by decide +kernel
theorem dX13_locker_6 : decode cX13_locker 6 = .ok (.iload_n 1, 1) := by decide +kernel
theorem dX13_locker_7 : decode cX13_locker 7 = .ok (.invokevirtual 132, 3) := by decide +kernel
theorem dX13_locker_10 : decode cX13_locker 10 = .ok (.ifCond .eq 21, 3) := by decide +kernel
theorem dX13_locker_13 : decode cX13_locker 13 = .ok (.iload_n 2, 1) := by decide +kernel
theorem dX13_locker_14 : decode cX13_locker 14 = .ok (.iconst 0, 1) := by decide +kernel
theorem dX13_locker_15 : decode cX13_locker 15 = .ok (.iconst 5, 1) := by decide +kernel
theorem dX13_locker_16 : decode cX13_locker 16 = .ok (.invokestatic 98, 3) := by decide +kernel
theorem dX13_locker_19 : decode cX13_locker 19 = .ok (.ifCond .eq 12, 3) := by decide +kernel
theorem dX13_locker_22 : decode cX13_locker 22 = .ok (.aload_n 0, 1) := by decide +kernel
theorem dX13_locker_23 : decode cX13_locker 23 = .ok (.iload_n 1, 1) := by decide +kernel
theorem dX13_locker_24 : decode cX13_locker 24 = .ok (.iload_n 2, 1) := by decide +kernel
theorem dX13_locker_25 : decode cX13_locker 25 = .ok (.invokevirtual 154, 3) := by decide +kernel
theorem dX13_locker_28 : decode cX13_locker 28 = .ok (.goto 8, 3) := by decide +kernel
theorem dX13_locker_31 : decode cX13_locker 31 = .ok (.aload_n 0, 1) := by decide +kernel
theorem dX13_locker_32 : decode cX13_locker 32 = .ok (.iconst 1, 1) := by decide +kernel
theorem dX13_locker_33 : decode cX13_locker 33 = .ok (.invokevirtual 120, 3) := by decide +kernel
theorem dX13_locker_36 : decode cX13_locker 36 = .ok (.ireturn, 1) := by decide +kernel
theorem dX13_parcelTold_0 : decode cX13_parcelTold 0 = .ok (.bipush 9, 2) := by decide +kernel
theorem dX13_parcelTold_2 : decode cX13_parcelTold 2 = .ok (.newarray .int, 2) := by decide +kernel
theorem dX13_parcelTold_4 : decode cX13_parcelTold 4 = .ok (.dup, 1) := by decide +kernel
theorem dX13_parcelTold_5 : decode cX13_parcelTold 5 = .ok (.iconst 0, 1) := by decide +kernel
theorem dX13_parcelTold_6 : decode cX13_parcelTold 6 = .ok (.aload_n 0, 1) := by decide +kernel
theorem dX13_parcelTold_7 : decode cX13_parcelTold 7 = .ok (.getfield 50, 3) := by decide +kernel
theorem dX13_parcelTold_10 : decode cX13_parcelTold 10 = .ok (.iload_n 1, 1) := by decide +kernel
theorem dX13_parcelTold_11 : decode cX13_parcelTold 11 = .ok (.iaload, 1) := by decide +kernel
theorem dX13_parcelTold_12 : decode cX13_parcelTold 12 = .ok (.iastore, 1) := by decide +kernel
theorem dX13_parcelTold_13 : decode cX13_parcelTold 13 = .ok (.dup, 1) := by decide +kernel
theorem dX13_parcelTold_14 : decode cX13_parcelTold 14 = .ok (.iconst 1, 1) := by decide +kernel
theorem dX13_parcelTold_15 : decode cX13_parcelTold 15 = .ok (.aload_n 0, 1) := by decide +kernel
theorem dX13_parcelTold_16 : decode cX13_parcelTold 16 = .ok (.getfield 53, 3) := by decide +kernel
theorem dX13_parcelTold_19 : decode cX13_parcelTold 19 = .ok (.iload_n 1, 1) := by decide +kernel
theorem dX13_parcelTold_20 : decode cX13_parcelTold 20 = .ok (.iaload, 1) := by decide +kernel
theorem dX13_parcelTold_21 : decode cX13_parcelTold 21 = .ok (.iastore, 1) := by decide +kernel
theorem dX13_parcelTold_22 : decode cX13_parcelTold 22 = .ok (.dup, 1) := by decide +kernel
theorem dX13_parcelTold_23 : decode cX13_parcelTold 23 = .ok (.iconst 2, 1) := by decide +kernel
theorem dX13_parcelTold_24 : decode cX13_parcelTold 24 = .ok (.aload_n 0, 1) := by decide +kernel
theorem dX13_parcelTold_25 : decode cX13_parcelTold 25 = .ok (.getfield 56, 3) := by decide +kernel
theorem dX13_parcelTold_28 : decode cX13_parcelTold 28 = .ok (.iload_n 1, 1) := by decide +kernel
theorem dX13_parcelTold_29 : decode cX13_parcelTold 29 = .ok (.iaload, 1) := by decide +kernel
theorem dX13_parcelTold_30 : decode cX13_parcelTold 30 = .ok (.iastore, 1) := by decide +kernel
theorem dX13_parcelTold_31 : decode cX13_parcelTold 31 = .ok (.dup, 1) := by decide +kernel
theorem dX13_parcelTold_32 : decode cX13_parcelTold 32 = .ok (.iconst 3, 1) := by decide +kernel
theorem dX13_parcelTold_33 : decode cX13_parcelTold 33 = .ok (.aload_n 0, 1) := by decide +kernel
theorem dX13_parcelTold_34 : decode cX13_parcelTold 34 = .ok (.getfield 59, 3) := by decide +kernel
theorem dX13_parcelTold_37 : decode cX13_parcelTold 37 = .ok (.iload_n 1, 1) := by decide +kernel
theorem dX13_parcelTold_38 : decode cX13_parcelTold 38 = .ok (.iaload, 1) := by decide +kernel
theorem dX13_parcelTold_39 : decode cX13_parcelTold 39 = .ok (.iastore, 1) := by decide +kernel
theorem dX13_parcelTold_40 : decode cX13_parcelTold 40 = .ok (.dup, 1) := by decide +kernel
theorem dX13_parcelTold_41 : decode cX13_parcelTold 41 = .ok (.iconst 4, 1) := by decide +kernel
theorem dX13_parcelTold_42 : decode cX13_parcelTold 42 = .ok (.aload_n 0, 1) := by decide +kernel
theorem dX13_parcelTold_43 : decode cX13_parcelTold 43 = .ok (.getfield 62, 3) := by decide +kernel
theorem dX13_parcelTold_46 : decode cX13_parcelTold 46 = .ok (.iload_n 1, 1) := by decide +kernel
theorem dX13_parcelTold_47 : decode cX13_parcelTold 47 = .ok (.iaload, 1) := by decide +kernel
theorem dX13_parcelTold_48 : decode cX13_parcelTold 48 = .ok (.iastore, 1) := by decide +kernel
theorem dX13_parcelTold_49 : decode cX13_parcelTold 49 = .ok (.dup, 1) := by decide +kernel
theorem dX13_parcelTold_50 : decode cX13_parcelTold 50 = .ok (.iconst 5, 1) := by decide +kernel
theorem dX13_parcelTold_51 : decode cX13_parcelTold 51 = .ok (.aload_n 0, 1) := by decide +kernel
theorem dX13_parcelTold_52 : decode cX13_parcelTold 52 = .ok (.getfield 70, 3) := by decide +kernel
theorem dX13_parcelTold_55 : decode cX13_parcelTold 55 = .ok (.getfield 157, 3) := by decide +kernel
theorem dX13_parcelTold_58 : decode cX13_parcelTold 58 = .ok (.iload_n 1, 1) := by decide +kernel
theorem dX13_parcelTold_59 : decode cX13_parcelTold 59 = .ok (.iaload, 1) := by decide +kernel
theorem dX13_parcelTold_60 : decode cX13_parcelTold 60 = .ok (.iastore, 1) := by decide +kernel
theorem dX13_parcelTold_61 : decode cX13_parcelTold 61 = .ok (.dup, 1) := by decide +kernel
theorem dX13_parcelTold_62 : decode cX13_parcelTold 62 = .ok (.bipush 6, 2) := by decide +kernel
theorem dX13_parcelTold_64 : decode cX13_parcelTold 64 = .ok (.aload_n 0, 1) := by decide +kernel
theorem dX13_parcelTold_65 : decode cX13_parcelTold 65 = .ok (.getfield 70, 3) := by decide +kernel
theorem dX13_parcelTold_68 : decode cX13_parcelTold 68 = .ok (.getfield 147, 3) := by decide +kernel
theorem dX13_parcelTold_71 : decode cX13_parcelTold 71 = .ok (.iload_n 1, 1) := by decide +kernel
theorem dX13_parcelTold_72 : decode cX13_parcelTold 72 = .ok (.iaload, 1) := by decide +kernel
theorem dX13_parcelTold_73 : decode cX13_parcelTold 73 = .ok (.iastore, 1) := by decide +kernel
theorem dX13_parcelTold_74 : decode cX13_parcelTold 74 = .ok (.dup, 1) := by decide +kernel
theorem dX13_parcelTold_75 : decode cX13_parcelTold 75 = .ok (.bipush 7, 2) := by decide +kernel
theorem dX13_parcelTold_77 : decode cX13_parcelTold 77 = .ok (.aload_n 0, 1) := by decide +kernel
theorem dX13_parcelTold_78 : decode cX13_parcelTold 78 = .ok (.getfield 70, 3) := by decide +kernel
theorem dX13_parcelTold_81 : decode cX13_parcelTold 81 = .ok (.iload_n 1, 1) := by decide +kernel
theorem dX13_parcelTold_82 : decode cX13_parcelTold 82 = .ok (.invokevirtual 160, 3) := by decide +kernel
theorem dX13_parcelTold_85 : decode cX13_parcelTold 85 = .ok (.iastore, 1) := by decide +kernel
theorem dX13_parcelTold_86 : decode cX13_parcelTold 86 = .ok (.dup, 1) := by decide +kernel
theorem dX13_parcelTold_87 : decode cX13_parcelTold 87 = .ok (.bipush 8, 2) := by decide +kernel
theorem dX13_parcelTold_89 : decode cX13_parcelTold 89 = .ok (.aload_n 0, 1) := by decide +kernel
theorem dX13_parcelTold_90 : decode cX13_parcelTold 90 = .ok (.getfield 70, 3) := by decide +kernel
theorem dX13_parcelTold_93 : decode cX13_parcelTold 93 = .ok (.getfield 144, 3) := by decide +kernel
theorem dX13_parcelTold_96 : decode cX13_parcelTold 96 = .ok (.iload_n 1, 1) := by decide +kernel
theorem dX13_parcelTold_97 : decode cX13_parcelTold 97 = .ok (.iaload, 1) := by decide +kernel
theorem dX13_parcelTold_98 : decode cX13_parcelTold 98 = .ok (.iastore, 1) := by decide +kernel
theorem dX13_parcelTold_99 : decode cX13_parcelTold 99 = .ok (.astore_n 3, 1) := by decide +kernel
theorem dX13_parcelTold_100 : decode cX13_parcelTold 100 = .ok (.aload_n 3, 1) := by decide +kernel
theorem dX13_parcelTold_101 : decode cX13_parcelTold 101 = .ok (.iload_n 2, 1) := by decide +kernel
theorem dX13_parcelTold_102 : decode cX13_parcelTold 102 = .ok (.iaload, 1) := by decide +kernel
theorem dX13_parcelTold_103 : decode cX13_parcelTold 103 = .ok (.ireturn, 1) := by decide +kernel
theorem dX13_parcel_0 : decode cX13_parcel 0 = .ok (.aload_n 0, 1) := by decide +kernel
theorem dX13_parcel_1 : decode cX13_parcel 1 = .ok (.iconst 0, 1) := by decide +kernel
theorem dX13_parcel_2 : decode cX13_parcel 2 = .ok (.putfield 95, 3) := by decide +kernel
theorem dX13_parcel_5 : decode cX13_parcel 5 = .ok (.aload_n 0, 1) := by decide +kernel
theorem dX13_parcel_6 : decode cX13_parcel 6 = .ok (.iload_n 1, 1) := by decide +kernel
theorem dX13_parcel_7 : decode cX13_parcel 7 = .ok (.invokevirtual 163, 3) := by decide +kernel
theorem dX13_parcel_10 : decode cX13_parcel 10 = .ok (.ifCond .eq 22, 3) := by decide +kernel
theorem dX13_parcel_13 : decode cX13_parcel 13 = .ok (.iload_n 2, 1) := by decide +kernel
theorem dX13_parcel_14 : decode cX13_parcel 14 = .ok (.iconst 0, 1) := by decide +kernel
theorem dX13_parcel_15 : decode cX13_parcel 15 = .ok (.bipush 8, 2) := by decide +kernel
theorem dX13_parcel_17 : decode cX13_parcel 17 = .ok (.invokestatic 98, 3) := by decide +kernel
theorem dX13_parcel_20 : decode cX13_parcel 20 = .ok (.ifCond .eq 12, 3) := by decide +kernel
theorem dX13_parcel_23 : decode cX13_parcel 23 = .ok (.aload_n 0, 1) := by decide +kernel
theorem dX13_parcel_24 : decode cX13_parcel 24 = .ok (.iload_n 1, 1) := by decide +kernel
theorem dX13_parcel_25 : decode cX13_parcel 25 = .ok (.iload_n 2, 1) := by decide +kernel
theorem dX13_parcel_26 : decode cX13_parcel 26 = .ok (.invokevirtual 166, 3) := by decide +kernel
theorem dX13_parcel_29 : decode cX13_parcel 29 = .ok (.goto 8, 3) := by decide +kernel
theorem dX13_parcel_32 : decode cX13_parcel 32 = .ok (.aload_n 0, 1) := by decide +kernel
theorem dX13_parcel_33 : decode cX13_parcel 33 = .ok (.iconst 1, 1) := by decide +kernel
theorem dX13_parcel_34 : decode cX13_parcel 34 = .ok (.invokevirtual 120, 3) := by decide +kernel
theorem dX13_parcel_37 : decode cX13_parcel 37 = .ok (.ireturn, 1) := by decide +kernel
theorem dX13_look_0 : decode cX13_look 0 = .ok (.aload_n 0, 1) := by decide +kernel
theorem dX13_look_1 : decode cX13_look 1 = .ok (.aload_n 0, 1) := by decide +kernel
theorem dX13_look_2 : decode cX13_look 2 = .ok (.getfield 70, 3) := by decide +kernel
theorem dX13_look_5 : decode cX13_look 5 = .ok (.getfield 169, 3) := by decide +kernel
theorem dX13_look_8 : decode cX13_look 8 = .ok (.iload_n 1, 1) := by decide +kernel
theorem dX13_look_9 : decode cX13_look 9 = .ok (.iaload, 1) := by decide +kernel
theorem dX13_look_10 : decode cX13_look 10 = .ok (.putfield 172, 3) := by decide +kernel
theorem dX13_look_13 : decode cX13_look 13 = .ok (.aload_n 0, 1) := by decide +kernel
theorem dX13_look_14 : decode cX13_look 14 = .ok (.getfield 70, 3) := by decide +kernel
theorem dX13_look_17 : decode cX13_look 17 = .ok (.getfield 175, 3) := by decide +kernel
theorem dX13_look_20 : decode cX13_look 20 = .ok (.bipush 12, 2) := by decide +kernel
theorem dX13_look_22 : decode cX13_look 22 = .ok (.iload_n 1, 1) := by decide +kernel
theorem dX13_look_23 : decode cX13_look 23 = .ok (.imul, 1) := by decide +kernel
theorem dX13_look_24 : decode cX13_look 24 = .ok (.aload_n 0, 1) := by decide +kernel
theorem dX13_look_25 : decode cX13_look 25 = .ok (.getfield 77, 3) := by decide +kernel
theorem dX13_look_28 : decode cX13_look 28 = .ok (.iconst 0, 1) := by decide +kernel
theorem dX13_look_29 : decode cX13_look 29 = .ok (.aload_n 0, 1) := by decide +kernel
theorem dX13_look_30 : decode cX13_look 30 = .ok (.getfield 172, 3) := by decide +kernel
theorem dX13_look_33 : decode cX13_look 33 = .ok (.invokestatic 138, 3) := by decide +kernel
theorem dX13_look_36 : decode cX13_look 36 = .ok (.return_, 1) := by decide +kernel
theorem dX13_insert_0 : decode cX13_insert 0 = .ok (.aload_n 0, 1) := by decide +kernel
theorem dX13_insert_1 : decode cX13_insert 1 = .ok (.getfield 77, 3) := by decide +kernel
theorem dX13_insert_4 : decode cX13_insert 4 = .ok (.iload_n 2, 1) := by decide +kernel
theorem dX13_insert_5 : decode cX13_insert 5 = .ok (.aload_n 0, 1) := by decide +kernel
theorem dX13_insert_6 : decode cX13_insert 6 = .ok (.getfield 77, 3) := by decide +kernel
theorem dX13_insert_9 : decode cX13_insert 9 = .ok (.iload_n 2, 1) := by decide +kernel
theorem dX13_insert_10 : decode cX13_insert 10 = .ok (.iconst 1, 1) := by decide +kernel
theorem dX13_insert_11 : decode cX13_insert 11 = .ok (.iadd, 1) := by decide +kernel
theorem dX13_insert_12 : decode cX13_insert 12 = .ok (.aload_n 0, 1) := by decide +kernel
theorem dX13_insert_13 : decode cX13_insert 13 = .ok (.getfield 172, 3) := by decide +kernel
theorem dX13_insert_16 : decode cX13_insert 16 = .ok (.iload_n 2, 1) := by decide +kernel
theorem dX13_insert_17 : decode cX13_insert 17 = .ok (.isub, 1) := by decide +kernel
theorem dX13_insert_18 : decode cX13_insert 18 = .ok (.invokestatic 138, 3) := by decide +kernel
theorem dX13_insert_21 : decode cX13_insert 21 = .ok (.aload_n 0, 1) := by decide +kernel
theorem dX13_insert_22 : decode cX13_insert 22 = .ok (.getfield 77, 3) := by decide +kernel
theorem dX13_insert_25 : decode cX13_insert 25 = .ok (.iload_n 2, 1) := by decide +kernel
theorem dX13_insert_26 : decode cX13_insert 26 = .ok (.iload_n 1, 1) := by decide +kernel
theorem dX13_insert_27 : decode cX13_insert 27 = .ok (.iastore, 1) := by decide +kernel
theorem dX13_insert_28 : decode cX13_insert 28 = .ok (.aload_n 0, 1) := by decide +kernel
theorem dX13_insert_29 : decode cX13_insert 29 = .ok (.dup, 1) := by decide +kernel
theorem dX13_insert_30 : decode cX13_insert 30 = .ok (.getfield 172, 3) := by decide +kernel
theorem dX13_insert_33 : decode cX13_insert 33 = .ok (.iconst 1, 1) := by decide +kernel
theorem dX13_insert_34 : decode cX13_insert 34 = .ok (.iadd, 1) := by decide +kernel
theorem dX13_insert_35 : decode cX13_insert 35 = .ok (.putfield 172, 3) := by decide +kernel
theorem dX13_insert_38 : decode cX13_insert 38 = .ok (.return_, 1) := by decide +kernel
theorem dX13_remove_0 : decode cX13_remove 0 = .ok (.aload_n 0, 1) := by decide +kernel
theorem dX13_remove_1 : decode cX13_remove 1 = .ok (.dup, 1) := by decide +kernel
theorem dX13_remove_2 : decode cX13_remove 2 = .ok (.getfield 172, 3) := by decide +kernel
theorem dX13_remove_5 : decode cX13_remove 5 = .ok (.iconst 1, 1) := by decide +kernel
theorem dX13_remove_6 : decode cX13_remove 6 = .ok (.isub, 1) := by decide +kernel
theorem dX13_remove_7 : decode cX13_remove 7 = .ok (.putfield 172, 3) := by decide +kernel
theorem dX13_remove_10 : decode cX13_remove 10 = .ok (.aload_n 0, 1) := by decide +kernel
theorem dX13_remove_11 : decode cX13_remove 11 = .ok (.getfield 77, 3) := by decide +kernel
theorem dX13_remove_14 : decode cX13_remove 14 = .ok (.iload_n 1, 1) := by decide +kernel
theorem dX13_remove_15 : decode cX13_remove 15 = .ok (.iconst 1, 1) := by decide +kernel
theorem dX13_remove_16 : decode cX13_remove 16 = .ok (.iadd, 1) := by decide +kernel
theorem dX13_remove_17 : decode cX13_remove 17 = .ok (.aload_n 0, 1) := by decide +kernel
theorem dX13_remove_18 : decode cX13_remove 18 = .ok (.getfield 77, 3) := by decide +kernel
theorem dX13_remove_21 : decode cX13_remove 21 = .ok (.iload_n 1, 1) := by decide +kernel
theorem dX13_remove_22 : decode cX13_remove 22 = .ok (.aload_n 0, 1) := by decide +kernel
theorem dX13_remove_23 : decode cX13_remove 23 = .ok (.getfield 172, 3) := by decide +kernel
theorem dX13_remove_26 : decode cX13_remove 26 = .ok (.iload_n 1, 1) := by decide +kernel
theorem dX13_remove_27 : decode cX13_remove 27 = .ok (.isub, 1) := by decide +kernel
theorem dX13_remove_28 : decode cX13_remove 28 = .ok (.invokestatic 138, 3) := by decide +kernel
theorem dX13_remove_31 : decode cX13_remove 31 = .ok (.return_, 1) := by decide +kernel
theorem dX13_keep_0 : decode cX13_keep 0 = .ok (.aload_n 0, 1) := by decide +kernel
theorem dX13_keep_1 : decode cX13_keep 1 = .ok (.getfield 77, 3) := by decide +kernel
theorem dX13_keep_4 : decode cX13_keep 4 = .ok (.iconst 0, 1) := by decide +kernel
theorem dX13_keep_5 : decode cX13_keep 5 = .ok (.aload_n 0, 1) := by decide +kernel
theorem dX13_keep_6 : decode cX13_keep 6 = .ok (.getfield 70, 3) := by decide +kernel
theorem dX13_keep_9 : decode cX13_keep 9 = .ok (.getfield 175, 3) := by decide +kernel
theorem dX13_keep_12 : decode cX13_keep 12 = .ok (.bipush 12, 2) := by decide +kernel
theorem dX13_keep_14 : decode cX13_keep 14 = .ok (.iload_n 1, 1) := by decide +kernel
theorem dX13_keep_15 : decode cX13_keep 15 = .ok (.imul, 1) := by decide +kernel
theorem dX13_keep_16 : decode cX13_keep 16 = .ok (.aload_n 0, 1) := by decide +kernel
theorem dX13_keep_17 : decode cX13_keep 17 = .ok (.getfield 172, 3) := by decide +kernel
theorem dX13_keep_20 : decode cX13_keep 20 = .ok (.invokestatic 138, 3) := by decide +kernel
theorem dX13_keep_23 : decode cX13_keep 23 = .ok (.aload_n 0, 1) := by decide +kernel
theorem dX13_keep_24 : decode cX13_keep 24 = .ok (.getfield 70, 3) := by decide +kernel
theorem dX13_keep_27 : decode cX13_keep 27 = .ok (.getfield 169, 3) := by decide +kernel
theorem dX13_keep_30 : decode cX13_keep 30 = .ok (.iload_n 1, 1) := by decide +kernel
theorem dX13_keep_31 : decode cX13_keep 31 = .ok (.aload_n 0, 1) := by decide +kernel
theorem dX13_keep_32 : decode cX13_keep 32 = .ok (.getfield 172, 3) := by decide +kernel
theorem dX13_keep_35 : decode cX13_keep 35 = .ok (.iastore, 1) := by decide +kernel
theorem dX13_keep_36 : decode cX13_keep 36 = .ok (.return_, 1) := by decide +kernel
theorem dX13_cost_0 : decode cX13_cost 0 = .ok (.aload_n 0, 1) := by decide +kernel
theorem dX13_cost_1 : decode cX13_cost 1 = .ok (.getfield 44, 3) := by decide +kernel
theorem dX13_cost_4 : decode cX13_cost 4 = .ok (.iload_n 1, 1) := by decide +kernel
theorem dX13_cost_5 : decode cX13_cost 5 = .ok (.iaload, 1) := by decide +kernel
theorem dX13_cost_6 : decode cX13_cost 6 = .ok (.istore_n 2, 1) := by decide +kernel
theorem dX13_cost_7 : decode cX13_cost 7 = .ok (.iload_n 2, 1) := by decide +kernel
theorem dX13_cost_8 : decode cX13_cost 8 = .ok (.istore_n 3, 1) := by decide +kernel
theorem dX13_cost_9 : decode cX13_cost 9 = .ok (.aload_n 0, 1) := by decide +kernel
theorem dX13_cost_10 : decode cX13_cost 10 = .ok (.getfield 13, 3) := by decide +kernel
theorem dX13_cost_13 : decode cX13_cost 13 = .ok (.istore 4, 2) := by decide +kernel
theorem dX13_cost_15 : decode cX13_cost 15 = .ok (.aload_n 0, 1) := by decide +kernel
theorem dX13_cost_16 : decode cX13_cost 16 = .ok (.getfield 17, 3) := by decide +kernel
theorem dX13_cost_19 : decode cX13_cost 19 = .ok (.istore 5, 2) := by decide +kernel
theorem dX13_cost_21 : decode cX13_cost 21 = .ok (.iconst 0, 1) := by decide +kernel
theorem dX13_cost_22 : decode cX13_cost 22 = .ok (.istore 6, 2) := by decide +kernel
theorem dX13_cost_24 : decode cX13_cost 24 = .ok (.iconst 0, 1) := by decide +kernel
theorem dX13_cost_25 : decode cX13_cost 25 = .ok (.istore 7, 2) := by decide +kernel
theorem dX13_cost_27 : decode cX13_cost 27 = .ok (.iload 7, 2) := by decide +kernel
theorem dX13_cost_29 : decode cX13_cost 29 = .ok (.aload_n 0, 1) := by decide +kernel
theorem dX13_cost_30 : decode cX13_cost 30 = .ok (.getfield 172, 3) := by decide +kernel
theorem dX13_cost_33 : decode cX13_cost 33 = .ok (.if_icmp .ge 46, 3) := by decide +kernel
theorem dX13_cost_36 : decode cX13_cost 36 = .ok (.iload 6, 2) := by decide +kernel
theorem dX13_cost_38 : decode cX13_cost 38 = .ok (.aload_n 0, 1) := by decide +kernel
theorem dX13_cost_39 : decode cX13_cost 39 = .ok (.getfield 50, 3) := by decide +kernel
theorem dX13_cost_42 : decode cX13_cost 42 = .ok (.aload_n 0, 1) := by decide +kernel
theorem dX13_cost_43 : decode cX13_cost 43 = .ok (.getfield 77, 3) := by decide +kernel
theorem dX13_cost_46 : decode cX13_cost 46 = .ok (.iload 7, 2) := by decide +kernel
theorem dX13_cost_48 : decode cX13_cost 48 = .ok (.iaload, 1) := by decide +kernel
theorem dX13_cost_49 : decode cX13_cost 49 = .ok (.iaload, 1) := by decide +kernel
theorem dX13_cost_50 : decode cX13_cost 50 = .ok (.iconst 2, 1) := by decide +kernel
theorem dX13_cost_51 : decode cX13_cost 51 = .ok (.if_icmp .ne 7, 3) := by decide +kernel
theorem dX13_cost_54 : decode cX13_cost 54 = .ok (.iconst 0, 1) := by decide +kernel
theorem dX13_cost_55 : decode cX13_cost 55 = .ok (.goto 15, 3) := by decide +kernel
theorem dX13_cost_58 : decode cX13_cost 58 = .ok (.aload_n 0, 1) := by decide +kernel
theorem dX13_cost_59 : decode cX13_cost 59 = .ok (.getfield 53, 3) := by decide +kernel
theorem dX13_cost_62 : decode cX13_cost 62 = .ok (.aload_n 0, 1) := by decide +kernel
theorem dX13_cost_63 : decode cX13_cost 63 = .ok (.getfield 77, 3) := by decide +kernel
theorem dX13_cost_66 : decode cX13_cost 66 = .ok (.iload 7, 2) := by decide +kernel
theorem dX13_cost_68 : decode cX13_cost 68 = .ok (.iaload, 1) := by decide +kernel
theorem dX13_cost_69 : decode cX13_cost 69 = .ok (.iaload, 1) := by decide +kernel
theorem dX13_cost_70 : decode cX13_cost 70 = .ok (.iadd, 1) := by decide +kernel
theorem dX13_cost_71 : decode cX13_cost 71 = .ok (.istore 6, 2) := by decide +kernel
theorem dX13_cost_73 : decode cX13_cost 73 = .ok (.iinc 7 1, 3) := by decide +kernel
theorem dX13_cost_76 : decode cX13_cost 76 = .ok (.goto (-49), 3) := by decide +kernel
theorem dX13_cost_79 : decode cX13_cost 79 = .ok (.aload_n 0, 1) := by decide +kernel
theorem dX13_cost_80 : decode cX13_cost 80 = .ok (.iconst 0, 1) := by decide +kernel
theorem dX13_cost_81 : decode cX13_cost 81 = .ok (.putfield 178, 3) := by decide +kernel
theorem dX13_cost_84 : decode cX13_cost 84 = .ok (.aload_n 0, 1) := by decide +kernel
theorem dX13_cost_85 : decode cX13_cost 85 = .ok (.iconst 0, 1) := by decide +kernel
theorem dX13_cost_86 : decode cX13_cost 86 = .ok (.putfield 181, 3) := by decide +kernel
theorem dX13_cost_89 : decode cX13_cost 89 = .ok (.aload_n 0, 1) := by decide +kernel
theorem dX13_cost_90 : decode cX13_cost 90 = .ok (.iconst 0, 1) := by decide +kernel
theorem dX13_cost_91 : decode cX13_cost 91 = .ok (.putfield 184, 3) := by decide +kernel
theorem dX13_cost_94 : decode cX13_cost 94 = .ok (.aload_n 0, 1) := by decide +kernel
theorem dX13_cost_95 : decode cX13_cost 95 = .ok (.iload 6, 2) := by decide +kernel
theorem dX13_cost_97 : decode cX13_cost 97 = .ok (.putfield 187, 3) := by decide +kernel
theorem dX13_cost_100 : decode cX13_cost 100 = .ok (.iconst 0, 1) := by decide +kernel
theorem dX13_cost_101 : decode cX13_cost 101 = .ok (.istore 7, 2) := by decide +kernel
theorem dX13_cost_103 : decode cX13_cost 103 = .ok (.iload 7, 2) := by decide +kernel
theorem dX13_cost_105 : decode cX13_cost 105 = .ok (.aload_n 0, 1) := by decide +kernel
theorem dX13_cost_106 : decode cX13_cost 106 = .ok (.getfield 172, 3) := by decide +kernel
theorem dX13_cost_109 : decode cX13_cost 109 = .ok (.if_icmp .gt 291, 3) := by decide +kernel
theorem dX13_cost_112 : decode cX13_cost 112 = .ok (.iload 7, 2) := by decide +kernel
theorem dX13_cost_114 : decode cX13_cost 114 = .ok (.aload_n 0, 1) := by decide +kernel
theorem dX13_cost_115 : decode cX13_cost 115 = .ok (.getfield 172, 3) := by decide +kernel
theorem dX13_cost_118 : decode cX13_cost 118 = .ok (.if_icmp .ne 7, 3) := by decide +kernel
theorem dX13_cost_121 : decode cX13_cost 121 = .ok (.iconst (-1), 1) := by decide +kernel
theorem dX13_cost_122 : decode cX13_cost 122 = .ok (.goto 15, 3) := by decide +kernel
theorem dX13_cost_125 : decode cX13_cost 125 = .ok (.aload_n 0, 1) := by decide +kernel
theorem dX13_cost_126 : decode cX13_cost 126 = .ok (.getfield 56, 3) := by decide +kernel
theorem dX13_cost_129 : decode cX13_cost 129 = .ok (.aload_n 0, 1) := by decide +kernel
theorem dX13_cost_130 : decode cX13_cost 130 = .ok (.getfield 77, 3) := by decide +kernel
theorem dX13_cost_133 : decode cX13_cost 133 = .ok (.iload 7, 2) := by decide +kernel
theorem dX13_cost_135 : decode cX13_cost 135 = .ok (.iaload, 1) := by decide +kernel
theorem dX13_cost_136 : decode cX13_cost 136 = .ok (.iaload, 1) := by decide +kernel
theorem dX13_cost_137 : decode cX13_cost 137 = .ok (.istore 8, 2) := by decide +kernel
theorem dX13_cost_139 : decode cX13_cost 139 = .ok (.iload 8, 2) := by decide +kernel
theorem dX13_cost_141 : decode cX13_cost 141 = .ok (.iconst (-1), 1) := by decide +kernel
theorem dX13_cost_142 : decode cX13_cost 142 = .ok (.if_icmp .ne 10, 3) := by decide +kernel
theorem dX13_cost_145 : decode cX13_cost 145 = .ok (.aload_n 0, 1) := by decide +kernel
theorem dX13_cost_146 : decode cX13_cost 146 = .ok (.getfield 13, 3) := by decide +kernel
theorem dX13_cost_149 : decode cX13_cost 149 = .ok (.goto 10, 3) := by decide +kernel
theorem dX13_cost_152 : decode cX13_cost 152 = .ok (.aload_n 0, 1) := by decide +kernel
theorem dX13_cost_153 : decode cX13_cost 153 = .ok (.getfield 20, 3) := by decide +kernel
theorem dX13_cost_156 : decode cX13_cost 156 = .ok (.iload 8, 2) := by decide +kernel
theorem dX13_cost_158 : decode cX13_cost 158 = .ok (.iaload, 1) := by decide +kernel
theorem dX13_cost_159 : decode cX13_cost 159 = .ok (.istore 9, 2) := by decide +kernel
theorem dX13_cost_161 : decode cX13_cost 161 = .ok (.iload 8, 2) := by decide +kernel
theorem dX13_cost_163 : decode cX13_cost 163 = .ok (.iconst (-1), 1) := by decide +kernel
theorem dX13_cost_164 : decode cX13_cost 164 = .ok (.if_icmp .ne 10, 3) := by decide +kernel
theorem dX13_cost_167 : decode cX13_cost 167 = .ok (.aload_n 0, 1) := by decide +kernel
theorem dX13_cost_168 : decode cX13_cost 168 = .ok (.getfield 17, 3) := by decide +kernel
theorem dX13_cost_171 : decode cX13_cost 171 = .ok (.goto 10, 3) := by decide +kernel
theorem dX13_cost_174 : decode cX13_cost 174 = .ok (.aload_n 0, 1) := by decide +kernel
theorem dX13_cost_175 : decode cX13_cost 175 = .ok (.getfield 23, 3) := by decide +kernel
theorem dX13_cost_178 : decode cX13_cost 178 = .ok (.iload 8, 2) := by decide +kernel
theorem dX13_cost_180 : decode cX13_cost 180 = .ok (.iaload, 1) := by decide +kernel
theorem dX13_cost_181 : decode cX13_cost 181 = .ok (.istore 10, 2) := by decide +kernel
theorem dX13_cost_183 : decode cX13_cost 183 = .ok (.iload 4, 2) := by decide +kernel
theorem dX13_cost_185 : decode cX13_cost 185 = .ok (.iload 5, 2) := by decide +kernel
theorem dX13_cost_187 : decode cX13_cost 187 = .ok (.iload 9, 2) := by decide +kernel
theorem dX13_cost_189 : decode cX13_cost 189 = .ok (.iload 10, 2) := by decide +kernel
theorem dX13_cost_191 : decode cX13_cost 191 = .ok (.invokestatic 190, 3) := by decide +kernel
theorem dX13_cost_194 : decode cX13_cost 194 = .ok (.istore 11, 2) := by decide +kernel
theorem dX13_cost_196 : decode cX13_cost 196 = .ok (.iload_n 2, 1) := by decide +kernel
theorem dX13_cost_197 : decode cX13_cost 197 = .ok (.iload_n 3, 1) := by decide +kernel
theorem dX13_cost_198 : decode cX13_cost 198 = .ok (.isub, 1) := by decide +kernel
theorem dX13_cost_199 : decode cX13_cost 199 = .ok (.aload_n 0, 1) := by decide +kernel
theorem dX13_cost_200 : decode cX13_cost 200 = .ok (.iload 11, 2) := by decide +kernel
theorem dX13_cost_202 : decode cX13_cost 202 = .ok (.iload_n 2, 1) := by decide +kernel
theorem dX13_cost_203 : decode cX13_cost 203 = .ok (.invokevirtual 194, 3) := by decide +kernel
theorem dX13_cost_206 : decode cX13_cost 206 = .ok (.iadd, 1) := by decide +kernel
theorem dX13_cost_207 : decode cX13_cost 207 = .ok (.sipush 240, 3) := by decide +kernel
theorem dX13_cost_210 : decode cX13_cost 210 = .ok (.if_icmp .le 18, 3) := by decide +kernel
theorem dX13_cost_213 : decode cX13_cost 213 = .ok (.iinc 2 30, 3) := by decide +kernel
theorem dX13_cost_216 : decode cX13_cost 216 = .ok (.iload_n 2, 1) := by decide +kernel
theorem dX13_cost_217 : decode cX13_cost 217 = .ok (.istore_n 3, 1) := by decide +kernel
theorem dX13_cost_218 : decode cX13_cost 218 = .ok (.aload_n 0, 1) := by decide +kernel
theorem dX13_cost_219 : decode cX13_cost 219 = .ok (.dup, 1) := by decide +kernel
theorem dX13_cost_220 : decode cX13_cost 220 = .ok (.getfield 184, 3) := by decide +kernel
theorem dX13_cost_223 : decode cX13_cost 223 = .ok (.iconst 1, 1) := by decide +kernel
theorem dX13_cost_224 : decode cX13_cost 224 = .ok (.iadd, 1) := by decide +kernel
theorem dX13_cost_225 : decode cX13_cost 225 = .ok (.putfield 184, 3) := by decide +kernel
theorem dX13_cost_228 : decode cX13_cost 228 = .ok (.aload_n 0, 1) := by decide +kernel
theorem dX13_cost_229 : decode cX13_cost 229 = .ok (.iload 11, 2) := by decide +kernel
theorem dX13_cost_231 : decode cX13_cost 231 = .ok (.iload_n 2, 1) := by decide +kernel
theorem dX13_cost_232 : decode cX13_cost 232 = .ok (.invokevirtual 194, 3) := by decide +kernel
theorem dX13_cost_235 : decode cX13_cost 235 = .ok (.istore 12, 2) := by decide +kernel
theorem dX13_cost_237 : decode cX13_cost 237 = .ok (.aload_n 0, 1) := by decide +kernel
theorem dX13_cost_238 : decode cX13_cost 238 = .ok (.dup, 1) := by decide +kernel
theorem dX13_cost_239 : decode cX13_cost 239 = .ok (.getfield 178, 3) := by decide +kernel
theorem dX13_cost_242 : decode cX13_cost 242 = .ok (.iload 12, 2) := by decide +kernel
theorem dX13_cost_244 : decode cX13_cost 244 = .ok (.iadd, 1) := by decide +kernel
theorem dX13_cost_245 : decode cX13_cost 245 = .ok (.putfield 178, 3) := by decide +kernel
theorem dX13_cost_248 : decode cX13_cost 248 = .ok (.iload_n 2, 1) := by decide +kernel
theorem dX13_cost_249 : decode cX13_cost 249 = .ok (.iload 12, 2) := by decide +kernel
theorem dX13_cost_251 : decode cX13_cost 251 = .ok (.iadd, 1) := by decide +kernel
theorem dX13_cost_252 : decode cX13_cost 252 = .ok (.istore_n 2, 1) := by decide +kernel
theorem dX13_cost_253 : decode cX13_cost 253 = .ok (.iload 9, 2) := by decide +kernel
theorem dX13_cost_255 : decode cX13_cost 255 = .ok (.istore 4, 2) := by decide +kernel
theorem dX13_cost_257 : decode cX13_cost 257 = .ok (.iload 10, 2) := by decide +kernel
theorem dX13_cost_259 : decode cX13_cost 259 = .ok (.istore 5, 2) := by decide +kernel
theorem dX13_cost_261 : decode cX13_cost 261 = .ok (.iload 8, 2) := by decide +kernel
theorem dX13_cost_263 : decode cX13_cost 263 = .ok (.iconst (-1), 1) := by decide +kernel
theorem dX13_cost_264 : decode cX13_cost 264 = .ok (.if_icmp .ne 6, 3) := by decide +kernel
theorem dX13_cost_267 : decode cX13_cost 267 = .ok (.goto 133, 3) := by decide +kernel
theorem dX13_cost_270 : decode cX13_cost 270 = .ok (.aload_n 0, 1) := by decide +kernel
theorem dX13_cost_271 : decode cX13_cost 271 = .ok (.getfield 77, 3) := by decide +kernel
theorem dX13_cost_274 : decode cX13_cost 274 = .ok (.iload 7, 2) := by decide +kernel
theorem dX13_cost_276 : decode cX13_cost 276 = .ok (.iaload, 1) := by decide +kernel
theorem dX13_cost_277 : decode cX13_cost 277 = .ok (.istore 13, 2) := by decide +kernel
theorem dX13_cost_279 : decode cX13_cost 279 = .ok (.iload_n 2, 1) := by decide +kernel
theorem dX13_cost_280 : decode cX13_cost 280 = .ok (.aload_n 0, 1) := by decide +kernel
theorem dX13_cost_281 : decode cX13_cost 281 = .ok (.getfield 59, 3) := by decide +kernel
theorem dX13_cost_284 : decode cX13_cost 284 = .ok (.iload 13, 2) := by decide +kernel
theorem dX13_cost_286 : decode cX13_cost 286 = .ok (.iaload, 1) := by decide +kernel
theorem dX13_cost_287 : decode cX13_cost 287 = .ok (.invokestatic 197, 3) := by decide +kernel
theorem dX13_cost_290 : decode cX13_cost 290 = .ok (.istore_n 2, 1) := by decide +kernel
theorem dX13_cost_291 : decode cX13_cost 291 = .ok (.aload_n 0, 1) := by decide +kernel
theorem dX13_cost_292 : decode cX13_cost 292 = .ok (.getfield 80, 3) := by decide +kernel
theorem dX13_cost_295 : decode cX13_cost 295 = .ok (.iload 7, 2) := by decide +kernel
theorem dX13_cost_297 : decode cX13_cost 297 = .ok (.iload_n 2, 1) := by decide +kernel
theorem dX13_cost_298 : decode cX13_cost 298 = .ok (.iastore, 1) := by decide +kernel
theorem dX13_cost_299 : decode cX13_cost 299 = .ok (.aload_n 0, 1) := by decide +kernel
theorem dX13_cost_300 : decode cX13_cost 300 = .ok (.getfield 83, 3) := by decide +kernel
theorem dX13_cost_303 : decode cX13_cost 303 = .ok (.iload 7, 2) := by decide +kernel
theorem dX13_cost_305 : decode cX13_cost 305 = .ok (.iconst 0, 1) := by decide +kernel
theorem dX13_cost_306 : decode cX13_cost 306 = .ok (.iload_n 2, 1) := by decide +kernel
theorem dX13_cost_307 : decode cX13_cost 307 = .ok (.aload_n 0, 1) := by decide +kernel
theorem dX13_cost_308 : decode cX13_cost 308 = .ok (.getfield 62, 3) := by decide +kernel
theorem dX13_cost_311 : decode cX13_cost 311 = .ok (.iload 13, 2) := by decide +kernel
theorem dX13_cost_313 : decode cX13_cost 313 = .ok (.iaload, 1) := by decide +kernel
theorem dX13_cost_314 : decode cX13_cost 314 = .ok (.isub, 1) := by decide +kernel
theorem dX13_cost_315 : decode cX13_cost 315 = .ok (.invokestatic 197, 3) := by decide +kernel
theorem dX13_cost_318 : decode cX13_cost 318 = .ok (.iastore, 1) := by decide +kernel
theorem dX13_cost_319 : decode cX13_cost 319 = .ok (.aload_n 0, 1) := by decide +kernel
theorem dX13_cost_320 : decode cX13_cost 320 = .ok (.dup, 1) := by decide +kernel
theorem dX13_cost_321 : decode cX13_cost 321 = .ok (.getfield 181, 3) := by decide +kernel
theorem dX13_cost_324 : decode cX13_cost 324 = .ok (.aload_n 0, 1) := by decide +kernel
theorem dX13_cost_325 : decode cX13_cost 325 = .ok (.getfield 83, 3) := by decide +kernel
theorem dX13_cost_328 : decode cX13_cost 328 = .ok (.iload 7, 2) := by decide +kernel
theorem dX13_cost_330 : decode cX13_cost 330 = .ok (.iaload, 1) := by decide +kernel
theorem dX13_cost_331 : decode cX13_cost 331 = .ok (.iadd, 1) := by decide +kernel
theorem dX13_cost_332 : decode cX13_cost 332 = .ok (.putfield 181, 3) := by decide +kernel
theorem dX13_cost_335 : decode cX13_cost 335 = .ok (.iload 6, 2) := by decide +kernel
theorem dX13_cost_337 : decode cX13_cost 337 = .ok (.aload_n 0, 1) := by decide +kernel
theorem dX13_cost_338 : decode cX13_cost 338 = .ok (.getfield 50, 3) := by decide +kernel
theorem dX13_cost_341 : decode cX13_cost 341 = .ok (.iload 13, 2) := by decide +kernel
theorem dX13_cost_343 : decode cX13_cost 343 = .ok (.iaload, 1) := by decide +kernel
theorem dX13_cost_344 : decode cX13_cost 344 = .ok (.iconst 2, 1) := by decide +kernel
theorem dX13_cost_345 : decode cX13_cost 345 = .ok (.if_icmp .ne 13, 3) := by decide +kernel
theorem dX13_cost_348 : decode cX13_cost 348 = .ok (.aload_n 0, 1) := by decide +kernel
theorem dX13_cost_349 : decode cX13_cost 349 = .ok (.getfield 53, 3) := by decide +kernel
theorem dX13_cost_352 : decode cX13_cost 352 = .ok (.iload 13, 2) := by decide +kernel
theorem dX13_cost_354 : decode cX13_cost 354 = .ok (.iaload, 1) := by decide +kernel
theorem dX13_cost_355 : decode cX13_cost 355 = .ok (.goto 11, 3) := by decide +kernel
theorem dX13_cost_358 : decode cX13_cost 358 = .ok (.aload_n 0, 1) := by decide +kernel
theorem dX13_cost_359 : decode cX13_cost 359 = .ok (.getfield 53, 3) := by decide +kernel
theorem dX13_cost_362 : decode cX13_cost 362 = .ok (.iload 13, 2) := by decide +kernel
theorem dX13_cost_364 : decode cX13_cost 364 = .ok (.iaload, 1) := by decide +kernel
theorem dX13_cost_365 : decode cX13_cost 365 = .ok (.ineg, 1) := by decide +kernel
theorem dX13_cost_366 : decode cX13_cost 366 = .ok (.iadd, 1) := by decide +kernel
theorem dX13_cost_367 : decode cX13_cost 367 = .ok (.istore 6, 2) := by decide +kernel
theorem dX13_cost_369 : decode cX13_cost 369 = .ok (.aload_n 0, 1) := by decide +kernel
theorem dX13_cost_370 : decode cX13_cost 370 = .ok (.getfield 86, 3) := by decide +kernel
theorem dX13_cost_373 : decode cX13_cost 373 = .ok (.iload 7, 2) := by decide +kernel
theorem dX13_cost_375 : decode cX13_cost 375 = .ok (.iload 6, 2) := by decide +kernel
theorem dX13_cost_377 : decode cX13_cost 377 = .ok (.iastore, 1) := by decide +kernel
theorem dX13_cost_378 : decode cX13_cost 378 = .ok (.aload_n 0, 1) := by decide +kernel
theorem dX13_cost_379 : decode cX13_cost 379 = .ok (.aload_n 0, 1) := by decide +kernel
theorem dX13_cost_380 : decode cX13_cost 380 = .ok (.getfield 187, 3) := by decide +kernel
theorem dX13_cost_383 : decode cX13_cost 383 = .ok (.iload 6, 2) := by decide +kernel
theorem dX13_cost_385 : decode cX13_cost 385 = .ok (.invokestatic 197, 3) := by decide +kernel
theorem dX13_cost_388 : decode cX13_cost 388 = .ok (.putfield 187, 3) := by decide +kernel
theorem dX13_cost_391 : decode cX13_cost 391 = .ok (.iinc 2 4, 3) := by decide +kernel
theorem dX13_cost_394 : decode cX13_cost 394 = .ok (.iinc 7 1, 3) := by decide +kernel
theorem dX13_cost_397 : decode cX13_cost 397 = .ok (.goto (-294), 3) := by decide +kernel
theorem dX13_cost_400 : decode cX13_cost 400 = .ok (.aload_n 0, 1) := by decide +kernel
theorem dX13_cost_401 : decode cX13_cost 401 = .ok (.iload_n 2, 1) := by decide +kernel
theorem dX13_cost_402 : decode cX13_cost 402 = .ok (.putfield 200, 3) := by decide +kernel
theorem dX13_cost_405 : decode cX13_cost 405 = .ok (.aload_n 0, 1) := by decide +kernel
theorem dX13_cost_406 : decode cX13_cost 406 = .ok (.getfield 178, 3) := by decide +kernel
theorem dX13_cost_409 : decode cX13_cost 409 = .ok (.iconst 3, 1) := by decide +kernel
theorem dX13_cost_410 : decode cX13_cost 410 = .ok (.aload_n 0, 1) := by decide +kernel
theorem dX13_cost_411 : decode cX13_cost 411 = .ok (.getfield 181, 3) := by decide +kernel
theorem dX13_cost_414 : decode cX13_cost 414 = .ok (.imul, 1) := by decide +kernel
theorem dX13_cost_415 : decode cX13_cost 415 = .ok (.iadd, 1) := by decide +kernel
theorem dX13_cost_416 : decode cX13_cost 416 = .ok (.iconst 2, 1) := by decide +kernel
theorem dX13_cost_417 : decode cX13_cost 417 = .ok (.iconst 0, 1) := by decide +kernel
theorem dX13_cost_418 : decode cX13_cost 418 = .ok (.aload_n 0, 1) := by decide +kernel
theorem dX13_cost_419 : decode cX13_cost 419 = .ok (.getfield 200, 3) := by decide +kernel
theorem dX13_cost_422 : decode cX13_cost 422 = .ok (.aload_n 0, 1) := by decide +kernel
theorem dX13_cost_423 : decode cX13_cost 423 = .ok (.getfield 47, 3) := by decide +kernel
theorem dX13_cost_426 : decode cX13_cost 426 = .ok (.iload_n 1, 1) := by decide +kernel
theorem dX13_cost_427 : decode cX13_cost 427 = .ok (.iaload, 1) := by decide +kernel
theorem dX13_cost_428 : decode cX13_cost 428 = .ok (.isub, 1) := by decide +kernel
theorem dX13_cost_429 : decode cX13_cost 429 = .ok (.invokestatic 197, 3) := by decide +kernel
theorem dX13_cost_432 : decode cX13_cost 432 = .ok (.imul, 1) := by decide +kernel
theorem dX13_cost_433 : decode cX13_cost 433 = .ok (.iadd, 1) := by decide +kernel
theorem dX13_cost_434 : decode cX13_cost 434 = .ok (.ireturn, 1) := by decide +kernel
theorem dX13_routeCost_0 : decode cX13_routeCost 0 = .ok (.aload_n 0, 1) := by decide +kernel
theorem dX13_routeCost_1 : decode cX13_routeCost 1 = .ok (.iload_n 1, 1) := by decide +kernel
theorem dX13_routeCost_2 : decode cX13_routeCost 2 = .ok (.invokevirtual 203, 3) := by decide +kernel
theorem dX13_routeCost_5 : decode cX13_routeCost 5 = .ok (.aload_n 0, 1) := by decide +kernel
theorem dX13_routeCost_6 : decode cX13_routeCost 6 = .ok (.iload_n 1, 1) := by decide +kernel
theorem dX13_routeCost_7 : decode cX13_routeCost 7 = .ok (.invokevirtual 207, 3) := by decide +kernel
theorem dX13_routeCost_10 : decode cX13_routeCost 10 = .ok (.ireturn, 1) := by decide +kernel
theorem dX13_more_0 : decode cX13_more 0 = .ok (.aload_n 0, 1) := by decide +kernel
theorem dX13_more_1 : decode cX13_more 1 = .ok (.iload_n 2, 1) := by decide +kernel
theorem dX13_more_2 : decode cX13_more 2 = .ok (.invokevirtual 210, 3) := by decide +kernel
theorem dX13_more_5 : decode cX13_more 5 = .ok (.istore 4, 2) := by decide +kernel
theorem dX13_more_7 : decode cX13_more 7 = .ok (.aload_n 0, 1) := by decide +kernel
theorem dX13_more_8 : decode cX13_more 8 = .ok (.iload_n 1, 1) := by decide +kernel
theorem dX13_more_9 : decode cX13_more 9 = .ok (.iload_n 3, 1) := by decide +kernel
theorem dX13_more_10 : decode cX13_more 10 = .ok (.invokevirtual 213, 3) := by decide +kernel
theorem dX13_more_13 : decode cX13_more 13 = .ok (.aload_n 0, 1) := by decide +kernel
theorem dX13_more_14 : decode cX13_more 14 = .ok (.iload_n 2, 1) := by decide +kernel
theorem dX13_more_15 : decode cX13_more 15 = .ok (.invokevirtual 207, 3) := by decide +kernel
theorem dX13_more_18 : decode cX13_more 18 = .ok (.istore 5, 2) := by decide +kernel
theorem dX13_more_20 : decode cX13_more 20 = .ok (.aload_n 0, 1) := by decide +kernel
theorem dX13_more_21 : decode cX13_more 21 = .ok (.getfield 172, 3) := by decide +kernel
theorem dX13_more_24 : decode cX13_more 24 = .ok (.bipush 12, 2) := by decide +kernel
theorem dX13_more_26 : decode cX13_more 26 = .ok (.if_icmp .gt 16, 3) := by decide +kernel
theorem dX13_more_29 : decode cX13_more 29 = .ok (.aload_n 0, 1) := by decide +kernel
theorem dX13_more_30 : decode cX13_more 30 = .ok (.getfield 187, 3) := by decide +kernel
theorem dX13_more_33 : decode cX13_more 33 = .ok (.aload_n 0, 1) := by decide +kernel
theorem dX13_more_34 : decode cX13_more 34 = .ok (.getfield 41, 3) := by decide +kernel
theorem dX13_more_37 : decode cX13_more 37 = .ok (.iload_n 2, 1) := by decide +kernel
theorem dX13_more_38 : decode cX13_more 38 = .ok (.iaload, 1) := by decide +kernel
theorem dX13_more_39 : decode cX13_more 39 = .ok (.if_icmp .le 8, 3) := by decide +kernel
theorem dX13_more_42 : decode cX13_more 42 = .ok (.ldc 217, 2) := by decide +kernel
theorem dX13_more_44 : decode cX13_more 44 = .ok (.goto 8, 3) := by decide +kernel
theorem dX13_more_47 : decode cX13_more 47 = .ok (.iload 5, 2) := by decide +kernel
theorem dX13_more_49 : decode cX13_more 49 = .ok (.iload 4, 2) := by decide +kernel
theorem dX13_more_51 : decode cX13_more 51 = .ok (.isub, 1) := by decide +kernel
theorem dX13_more_52 : decode cX13_more 52 = .ok (.ireturn, 1) := by decide +kernel
theorem dX13_isFree_0 : decode cX13_isFree 0 = .ok (.aload_n 0, 1) := by decide +kernel
theorem dX13_isFree_1 : decode cX13_isFree 1 = .ok (.getfield 70, 3) := by decide +kernel
theorem dX13_isFree_4 : decode cX13_isFree 4 = .ok (.getfield 147, 3) := by decide +kernel
theorem dX13_isFree_7 : decode cX13_isFree 7 = .ok (.iload_n 1, 1) := by decide +kernel
theorem dX13_isFree_8 : decode cX13_isFree 8 = .ok (.iaload, 1) := by decide +kernel
theorem dX13_isFree_9 : decode cX13_isFree 9 = .ok (.ifCond .ne 19, 3) := by decide +kernel
theorem dX13_isFree_12 : decode cX13_isFree 12 = .ok (.aload_n 0, 1) := by decide +kernel
theorem dX13_isFree_13 : decode cX13_isFree 13 = .ok (.getfield 70, 3) := by decide +kernel
theorem dX13_isFree_16 : decode cX13_isFree 16 = .ok (.iload_n 1, 1) := by decide +kernel
theorem dX13_isFree_17 : decode cX13_isFree 17 = .ok (.invokevirtual 160, 3) := by decide +kernel
theorem dX13_isFree_20 : decode cX13_isFree 20 = .ok (.iconst (-1), 1) := by decide +kernel
theorem dX13_isFree_21 : decode cX13_isFree 21 = .ok (.if_icmp .ne 7, 3) := by decide +kernel
theorem dX13_isFree_24 : decode cX13_isFree 24 = .ok (.iconst 1, 1) := by decide +kernel
theorem dX13_isFree_25 : decode cX13_isFree 25 = .ok (.goto 4, 3) := by decide +kernel
theorem dX13_isFree_28 : decode cX13_isFree 28 = .ok (.iconst 0, 1) := by decide +kernel
theorem dX13_isFree_29 : decode cX13_isFree 29 = .ok (.ireturn, 1) := by decide +kernel
theorem dX13_put_0 : decode cX13_put 0 = .ok (.aload_n 0, 1) := by decide +kernel
theorem dX13_put_1 : decode cX13_put 1 = .ok (.iconst 0, 1) := by decide +kernel
theorem dX13_put_2 : decode cX13_put 2 = .ok (.putfield 95, 3) := by decide +kernel
theorem dX13_put_5 : decode cX13_put 5 = .ok (.aload_n 0, 1) := by decide +kernel
theorem dX13_put_6 : decode cX13_put 6 = .ok (.iload_n 1, 1) := by decide +kernel
theorem dX13_put_7 : decode cX13_put 7 = .ok (.invokevirtual 163, 3) := by decide +kernel
theorem dX13_put_10 : decode cX13_put 10 = .ok (.ifCond .eq 28, 3) := by decide +kernel
theorem dX13_put_13 : decode cX13_put 13 = .ok (.aload_n 0, 1) := by decide +kernel
theorem dX13_put_14 : decode cX13_put 14 = .ok (.iload_n 2, 1) := by decide +kernel
theorem dX13_put_15 : decode cX13_put 15 = .ok (.invokevirtual 218, 3) := by decide +kernel
theorem dX13_put_18 : decode cX13_put 18 = .ok (.ifCond .eq 20, 3) := by decide +kernel
theorem dX13_put_21 : decode cX13_put 21 = .ok (.iload_n 3, 1) := by decide +kernel
theorem dX13_put_22 : decode cX13_put 22 = .ok (.iconst 0, 1) := by decide +kernel
theorem dX13_put_23 : decode cX13_put 23 = .ok (.aload_n 0, 1) := by decide +kernel
theorem dX13_put_24 : decode cX13_put 24 = .ok (.getfield 70, 3) := by decide +kernel
theorem dX13_put_27 : decode cX13_put 27 = .ok (.getfield 169, 3) := by decide +kernel
theorem dX13_put_30 : decode cX13_put 30 = .ok (.iload_n 2, 1) := by decide +kernel
theorem dX13_put_31 : decode cX13_put 31 = .ok (.iaload, 1) := by decide +kernel
theorem dX13_put_32 : decode cX13_put 32 = .ok (.invokestatic 98, 3) := by decide +kernel
theorem dX13_put_35 : decode cX13_put 35 = .ok (.ifCond .ne 9, 3) := by decide +kernel
theorem dX13_put_38 : decode cX13_put 38 = .ok (.aload_n 0, 1) := by decide +kernel
theorem dX13_put_39 : decode cX13_put 39 = .ok (.iconst 1, 1) := by decide +kernel
theorem dX13_put_40 : decode cX13_put 40 = .ok (.invokevirtual 120, 3) := by decide +kernel
theorem dX13_put_43 : decode cX13_put 43 = .ok (.ireturn, 1) := by decide +kernel
theorem dX13_put_44 : decode cX13_put 44 = .ok (.aload_n 0, 1) := by decide +kernel
theorem dX13_put_45 : decode cX13_put 45 = .ok (.iload_n 1, 1) := by decide +kernel
theorem dX13_put_46 : decode cX13_put 46 = .ok (.invokevirtual 221, 3) := by decide +kernel
theorem dX13_put_49 : decode cX13_put 49 = .ok (.ifCond .ne 9, 3) := by decide +kernel
theorem dX13_put_52 : decode cX13_put 52 = .ok (.aload_n 0, 1) := by decide +kernel
theorem dX13_put_53 : decode cX13_put 53 = .ok (.iconst 2, 1) := by decide +kernel
theorem dX13_put_54 : decode cX13_put 54 = .ok (.invokevirtual 120, 3) := by decide +kernel
theorem dX13_put_57 : decode cX13_put 57 = .ok (.ireturn, 1) := by decide +kernel
theorem dX13_put_58 : decode cX13_put 58 = .ok (.aload_n 0, 1) := by decide +kernel
theorem dX13_put_59 : decode cX13_put 59 = .ok (.iload_n 1, 1) := by decide +kernel
theorem dX13_put_60 : decode cX13_put 60 = .ok (.iload_n 2, 1) := by decide +kernel
theorem dX13_put_61 : decode cX13_put 61 = .ok (.iload_n 3, 1) := by decide +kernel
theorem dX13_put_62 : decode cX13_put 62 = .ok (.invokevirtual 224, 3) := by decide +kernel
theorem dX13_put_65 : decode cX13_put 65 = .ok (.istore 4, 2) := by decide +kernel
theorem dX13_put_67 : decode cX13_put 67 = .ok (.iload 4, 2) := by decide +kernel
theorem dX13_put_69 : decode cX13_put 69 = .ok (.ldc 217, 2) := by decide +kernel
theorem dX13_put_71 : decode cX13_put 71 = .ok (.if_icmp .ne 9, 3) := by decide +kernel
theorem dX13_put_74 : decode cX13_put 74 = .ok (.aload_n 0, 1) := by decide +kernel
theorem dX13_put_75 : decode cX13_put 75 = .ok (.iconst 2, 1) := by decide +kernel
theorem dX13_put_76 : decode cX13_put 76 = .ok (.invokevirtual 120, 3) := by decide +kernel
theorem dX13_put_79 : decode cX13_put 79 = .ok (.ireturn, 1) := by decide +kernel
theorem dX13_put_80 : decode cX13_put 80 = .ok (.aload_n 0, 1) := by decide +kernel
theorem dX13_put_81 : decode cX13_put 81 = .ok (.iload_n 2, 1) := by decide +kernel
theorem dX13_put_82 : decode cX13_put 82 = .ok (.invokevirtual 228, 3) := by decide +kernel
theorem dX13_put_85 : decode cX13_put 85 = .ok (.iload 4, 2) := by decide +kernel
theorem dX13_put_87 : decode cX13_put 87 = .ok (.ireturn, 1) := by decide +kernel
theorem dX13_take_0 : decode cX13_take 0 = .ok (.aload_n 0, 1) := by decide +kernel
theorem dX13_take_1 : decode cX13_take 1 = .ok (.iconst 0, 1) := by decide +kernel
theorem dX13_take_2 : decode cX13_take 2 = .ok (.putfield 95, 3) := by decide +kernel
theorem dX13_take_5 : decode cX13_take 5 = .ok (.aload_n 0, 1) := by decide +kernel
theorem dX13_take_6 : decode cX13_take 6 = .ok (.iload_n 1, 1) := by decide +kernel
theorem dX13_take_7 : decode cX13_take 7 = .ok (.invokevirtual 163, 3) := by decide +kernel
theorem dX13_take_10 : decode cX13_take 10 = .ok (.ifCond .ne 9, 3) := by decide +kernel
theorem dX13_take_13 : decode cX13_take 13 = .ok (.aload_n 0, 1) := by decide +kernel
theorem dX13_take_14 : decode cX13_take 14 = .ok (.iconst 1, 1) := by decide +kernel
theorem dX13_take_15 : decode cX13_take 15 = .ok (.invokevirtual 120, 3) := by decide +kernel
theorem dX13_take_18 : decode cX13_take 18 = .ok (.ireturn, 1) := by decide +kernel
theorem dX13_take_19 : decode cX13_take 19 = .ok (.aload_n 0, 1) := by decide +kernel
theorem dX13_take_20 : decode cX13_take 20 = .ok (.getfield 70, 3) := by decide +kernel
theorem dX13_take_23 : decode cX13_take 23 = .ok (.iload_n 1, 1) := by decide +kernel
theorem dX13_take_24 : decode cX13_take 24 = .ok (.invokevirtual 160, 3) := by decide +kernel
theorem dX13_take_27 : decode cX13_take 27 = .ok (.istore_n 2, 1) := by decide +kernel
theorem dX13_take_28 : decode cX13_take 28 = .ok (.iload_n 2, 1) := by decide +kernel
theorem dX13_take_29 : decode cX13_take 29 = .ok (.iconst (-1), 1) := by decide +kernel
theorem dX13_take_30 : decode cX13_take 30 = .ok (.if_icmp .ne 9, 3) := by decide +kernel
theorem dX13_take_33 : decode cX13_take 33 = .ok (.aload_n 0, 1) := by decide +kernel
theorem dX13_take_34 : decode cX13_take 34 = .ok (.iconst 2, 1) := by decide +kernel
theorem dX13_take_35 : decode cX13_take 35 = .ok (.invokevirtual 120, 3) := by decide +kernel
theorem dX13_take_38 : decode cX13_take 38 = .ok (.ireturn, 1) := by decide +kernel
theorem dX13_take_39 : decode cX13_take 39 = .ok (.aload_n 0, 1) := by decide +kernel
theorem dX13_take_40 : decode cX13_take 40 = .ok (.iload_n 2, 1) := by decide +kernel
theorem dX13_take_41 : decode cX13_take 41 = .ok (.invokevirtual 210, 3) := by decide +kernel
theorem dX13_take_44 : decode cX13_take 44 = .ok (.istore_n 3, 1) := by decide +kernel
theorem dX13_take_45 : decode cX13_take 45 = .ok (.aload_n 0, 1) := by decide +kernel
theorem dX13_take_46 : decode cX13_take 46 = .ok (.getfield 172, 3) := by decide +kernel
theorem dX13_take_49 : decode cX13_take 49 = .ok (.iconst 1, 1) := by decide +kernel
theorem dX13_take_50 : decode cX13_take 50 = .ok (.isub, 1) := by decide +kernel
theorem dX13_take_51 : decode cX13_take 51 = .ok (.istore 4, 2) := by decide +kernel
theorem dX13_take_53 : decode cX13_take 53 = .ok (.iload 4, 2) := by decide +kernel
theorem dX13_take_55 : decode cX13_take 55 = .ok (.ifCond .lt 26, 3) := by decide +kernel
theorem dX13_take_58 : decode cX13_take 58 = .ok (.aload_n 0, 1) := by decide +kernel
theorem dX13_take_59 : decode cX13_take 59 = .ok (.getfield 77, 3) := by decide +kernel
theorem dX13_take_62 : decode cX13_take 62 = .ok (.iload 4, 2) := by decide +kernel
theorem dX13_take_64 : decode cX13_take 64 = .ok (.iaload, 1) := by decide +kernel
theorem dX13_take_65 : decode cX13_take 65 = .ok (.iload_n 1, 1) := by decide +kernel
theorem dX13_take_66 : decode cX13_take 66 = .ok (.if_icmp .ne 9, 3) := by decide +kernel
theorem dX13_take_69 : decode cX13_take 69 = .ok (.aload_n 0, 1) := by decide +kernel
theorem dX13_take_70 : decode cX13_take 70 = .ok (.iload 4, 2) := by decide +kernel
theorem dX13_take_72 : decode cX13_take 72 = .ok (.invokevirtual 231, 3) := by decide +kernel
theorem dX13_take_75 : decode cX13_take 75 = .ok (.iinc 4 (-1), 3) := by decide +kernel
theorem dX13_take_78 : decode cX13_take 78 = .ok (.goto (-25), 3) := by decide +kernel
theorem dX13_take_81 : decode cX13_take 81 = .ok (.aload_n 0, 1) := by decide +kernel
theorem dX13_take_82 : decode cX13_take 82 = .ok (.iload_n 2, 1) := by decide +kernel
theorem dX13_take_83 : decode cX13_take 83 = .ok (.invokevirtual 228, 3) := by decide +kernel
theorem dX13_take_86 : decode cX13_take 86 = .ok (.iload_n 3, 1) := by decide +kernel
theorem dX13_take_87 : decode cX13_take 87 = .ok (.aload_n 0, 1) := by decide +kernel
theorem dX13_take_88 : decode cX13_take 88 = .ok (.iload_n 2, 1) := by decide +kernel
theorem dX13_take_89 : decode cX13_take 89 = .ok (.invokevirtual 207, 3) := by decide +kernel
theorem dX13_take_92 : decode cX13_take 92 = .ok (.isub, 1) := by decide +kernel
theorem dX13_take_93 : decode cX13_take 93 = .ok (.ireturn, 1) := by decide +kernel
theorem dX13_route_0 : decode cX13_route 0 = .ok (.aload_n 0, 1) := by decide +kernel
theorem dX13_route_1 : decode cX13_route 1 = .ok (.iconst 0, 1) := by decide +kernel
theorem dX13_route_2 : decode cX13_route 2 = .ok (.putfield 95, 3) := by decide +kernel
theorem dX13_route_5 : decode cX13_route 5 = .ok (.aload_n 0, 1) := by decide +kernel
theorem dX13_route_6 : decode cX13_route 6 = .ok (.iload_n 1, 1) := by decide +kernel
theorem dX13_route_7 : decode cX13_route 7 = .ok (.invokevirtual 218, 3) := by decide +kernel
theorem dX13_route_10 : decode cX13_route 10 = .ok (.ifCond .eq 39, 3) := by decide +kernel
theorem dX13_route_13 : decode cX13_route 13 = .ok (.iload_n 2, 1) := by decide +kernel
theorem dX13_route_14 : decode cX13_route 14 = .ok (.iconst 0, 1) := by decide +kernel
theorem dX13_route_15 : decode cX13_route 15 = .ok (.aload_n 0, 1) := by decide +kernel
theorem dX13_route_16 : decode cX13_route 16 = .ok (.getfield 70, 3) := by decide +kernel
theorem dX13_route_19 : decode cX13_route 19 = .ok (.getfield 169, 3) := by decide +kernel
theorem dX13_route_22 : decode cX13_route 22 = .ok (.iload_n 1, 1) := by decide +kernel
theorem dX13_route_23 : decode cX13_route 23 = .ok (.iaload, 1) := by decide +kernel
theorem dX13_route_24 : decode cX13_route 24 = .ok (.iconst 1, 1) := by decide +kernel
theorem dX13_route_25 : decode cX13_route 25 = .ok (.isub, 1) := by decide +kernel
theorem dX13_route_26 : decode cX13_route 26 = .ok (.invokestatic 98, 3) := by decide +kernel
theorem dX13_route_29 : decode cX13_route 29 = .ok (.ifCond .eq 20, 3) := by decide +kernel
theorem dX13_route_32 : decode cX13_route 32 = .ok (.aload_n 0, 1) := by decide +kernel
theorem dX13_route_33 : decode cX13_route 33 = .ok (.getfield 70, 3) := by decide +kernel
theorem dX13_route_36 : decode cX13_route 36 = .ok (.getfield 175, 3) := by decide +kernel
theorem dX13_route_39 : decode cX13_route 39 = .ok (.bipush 12, 2) := by decide +kernel
theorem dX13_route_41 : decode cX13_route 41 = .ok (.iload_n 1, 1) := by decide +kernel
theorem dX13_route_42 : decode cX13_route 42 = .ok (.imul, 1) := by decide +kernel
theorem dX13_route_43 : decode cX13_route 43 = .ok (.iload_n 2, 1) := by decide +kernel
theorem dX13_route_44 : decode cX13_route 44 = .ok (.iadd, 1) := by decide +kernel
theorem dX13_route_45 : decode cX13_route 45 = .ok (.iaload, 1) := by decide +kernel
theorem dX13_route_46 : decode cX13_route 46 = .ok (.goto 8, 3) := by decide +kernel
theorem dX13_route_49 : decode cX13_route 49 = .ok (.aload_n 0, 1) := by decide +kernel
theorem dX13_route_50 : decode cX13_route 50 = .ok (.iconst 1, 1) := by decide +kernel
theorem dX13_route_51 : decode cX13_route 51 = .ok (.invokevirtual 120, 3) := by decide +kernel
theorem dX13_route_54 : decode cX13_route 54 = .ok (.ireturn, 1) := by decide +kernel
theorem dX13_vanTold_0 : decode cX13_vanTold 0 = .ok (.aload_n 0, 1) := by decide +kernel
theorem dX13_vanTold_1 : decode cX13_vanTold 1 = .ok (.iload_n 1, 1) := by decide +kernel
theorem dX13_vanTold_2 : decode cX13_vanTold 2 = .ok (.invokevirtual 210, 3) := by decide +kernel
theorem dX13_vanTold_5 : decode cX13_vanTold 5 = .ok (.istore_n 3, 1) := by decide +kernel
theorem dX13_vanTold_6 : decode cX13_vanTold 6 = .ok (.bipush 10, 2) := by decide +kernel
theorem dX13_vanTold_8 : decode cX13_vanTold 8 = .ok (.newarray .int, 2) := by decide +kernel
theorem dX13_vanTold_10 : decode cX13_vanTold 10 = .ok (.dup, 1) := by decide +kernel
theorem dX13_vanTold_11 : decode cX13_vanTold 11 = .ok (.iconst 0, 1) := by decide +kernel
theorem dX13_vanTold_12 : decode cX13_vanTold 12 = .ok (.aload_n 0, 1) := by decide +kernel
theorem dX13_vanTold_13 : decode cX13_vanTold 13 = .ok (.getfield 41, 3) := by decide +kernel
theorem dX13_vanTold_16 : decode cX13_vanTold 16 = .ok (.iload_n 1, 1) := by decide +kernel
theorem dX13_vanTold_17 : decode cX13_vanTold 17 = .ok (.iaload, 1) := by decide +kernel
theorem dX13_vanTold_18 : decode cX13_vanTold 18 = .ok (.iastore, 1) := by decide +kernel
theorem dX13_vanTold_19 : decode cX13_vanTold 19 = .ok (.dup, 1) := by decide +kernel
theorem dX13_vanTold_20 : decode cX13_vanTold 20 = .ok (.iconst 1, 1) := by decide +kernel
theorem dX13_vanTold_21 : decode cX13_vanTold 21 = .ok (.aload_n 0, 1) := by decide +kernel
theorem dX13_vanTold_22 : decode cX13_vanTold 22 = .ok (.getfield 44, 3) := by decide +kernel
theorem dX13_vanTold_25 : decode cX13_vanTold 25 = .ok (.iload_n 1, 1) := by decide +kernel
theorem dX13_vanTold_26 : decode cX13_vanTold 26 = .ok (.iaload, 1) := by decide +kernel
theorem dX13_vanTold_27 : decode cX13_vanTold 27 = .ok (.iastore, 1) := by decide +kernel
theorem dX13_vanTold_28 : decode cX13_vanTold 28 = .ok (.dup, 1) := by decide +kernel
theorem dX13_vanTold_29 : decode cX13_vanTold 29 = .ok (.iconst 2, 1) := by decide +kernel
theorem dX13_vanTold_30 : decode cX13_vanTold 30 = .ok (.aload_n 0, 1) := by decide +kernel
theorem dX13_vanTold_31 : decode cX13_vanTold 31 = .ok (.getfield 47, 3) := by decide +kernel
theorem dX13_vanTold_34 : decode cX13_vanTold 34 = .ok (.iload_n 1, 1) := by decide +kernel
theorem dX13_vanTold_35 : decode cX13_vanTold 35 = .ok (.iaload, 1) := by decide +kernel
theorem dX13_vanTold_36 : decode cX13_vanTold 36 = .ok (.iastore, 1) := by decide +kernel
theorem dX13_vanTold_37 : decode cX13_vanTold 37 = .ok (.dup, 1) := by decide +kernel
theorem dX13_vanTold_38 : decode cX13_vanTold 38 = .ok (.iconst 3, 1) := by decide +kernel
theorem dX13_vanTold_39 : decode cX13_vanTold 39 = .ok (.aload_n 0, 1) := by decide +kernel
theorem dX13_vanTold_40 : decode cX13_vanTold 40 = .ok (.getfield 172, 3) := by decide +kernel
theorem dX13_vanTold_43 : decode cX13_vanTold 43 = .ok (.iastore, 1) := by decide +kernel
theorem dX13_vanTold_44 : decode cX13_vanTold 44 = .ok (.dup, 1) := by decide +kernel
theorem dX13_vanTold_45 : decode cX13_vanTold 45 = .ok (.iconst 4, 1) := by decide +kernel
theorem dX13_vanTold_46 : decode cX13_vanTold 46 = .ok (.iload_n 3, 1) := by decide +kernel
theorem dX13_vanTold_47 : decode cX13_vanTold 47 = .ok (.iastore, 1) := by decide +kernel
theorem dX13_vanTold_48 : decode cX13_vanTold 48 = .ok (.dup, 1) := by decide +kernel
theorem dX13_vanTold_49 : decode cX13_vanTold 49 = .ok (.iconst 5, 1) := by decide +kernel
theorem dX13_vanTold_50 : decode cX13_vanTold 50 = .ok (.aload_n 0, 1) := by decide +kernel
theorem dX13_vanTold_51 : decode cX13_vanTold 51 = .ok (.getfield 178, 3) := by decide +kernel
theorem dX13_vanTold_54 : decode cX13_vanTold 54 = .ok (.iastore, 1) := by decide +kernel
theorem dX13_vanTold_55 : decode cX13_vanTold 55 = .ok (.dup, 1) := by decide +kernel
theorem dX13_vanTold_56 : decode cX13_vanTold 56 = .ok (.bipush 6, 2) := by decide +kernel
theorem dX13_vanTold_58 : decode cX13_vanTold 58 = .ok (.aload_n 0, 1) := by decide +kernel
theorem dX13_vanTold_59 : decode cX13_vanTold 59 = .ok (.getfield 181, 3) := by decide +kernel
theorem dX13_vanTold_62 : decode cX13_vanTold 62 = .ok (.iastore, 1) := by decide +kernel
theorem dX13_vanTold_63 : decode cX13_vanTold 63 = .ok (.dup, 1) := by decide +kernel
theorem dX13_vanTold_64 : decode cX13_vanTold 64 = .ok (.bipush 7, 2) := by decide +kernel
theorem dX13_vanTold_66 : decode cX13_vanTold 66 = .ok (.aload_n 0, 1) := by decide +kernel
theorem dX13_vanTold_67 : decode cX13_vanTold 67 = .ok (.getfield 200, 3) := by decide +kernel
theorem dX13_vanTold_70 : decode cX13_vanTold 70 = .ok (.iastore, 1) := by decide +kernel
theorem dX13_vanTold_71 : decode cX13_vanTold 71 = .ok (.dup, 1) := by decide +kernel
theorem dX13_vanTold_72 : decode cX13_vanTold 72 = .ok (.bipush 8, 2) := by decide +kernel
theorem dX13_vanTold_74 : decode cX13_vanTold 74 = .ok (.aload_n 0, 1) := by decide +kernel
theorem dX13_vanTold_75 : decode cX13_vanTold 75 = .ok (.getfield 184, 3) := by decide +kernel
theorem dX13_vanTold_78 : decode cX13_vanTold 78 = .ok (.iastore, 1) := by decide +kernel
theorem dX13_vanTold_79 : decode cX13_vanTold 79 = .ok (.dup, 1) := by decide +kernel
theorem dX13_vanTold_80 : decode cX13_vanTold 80 = .ok (.bipush 9, 2) := by decide +kernel
theorem dX13_vanTold_82 : decode cX13_vanTold 82 = .ok (.aload_n 0, 1) := by decide +kernel
theorem dX13_vanTold_83 : decode cX13_vanTold 83 = .ok (.getfield 187, 3) := by decide +kernel
theorem dX13_vanTold_86 : decode cX13_vanTold 86 = .ok (.iastore, 1) := by decide +kernel
theorem dX13_vanTold_87 : decode cX13_vanTold 87 = .ok (.astore 4, 2) := by decide +kernel
theorem dX13_vanTold_89 : decode cX13_vanTold 89 = .ok (.aload 4, 2) := by decide +kernel
theorem dX13_vanTold_91 : decode cX13_vanTold 91 = .ok (.iload_n 2, 1) := by decide +kernel
theorem dX13_vanTold_92 : decode cX13_vanTold 92 = .ok (.iaload, 1) := by decide +kernel
theorem dX13_vanTold_93 : decode cX13_vanTold 93 = .ok (.ireturn, 1) := by decide +kernel
theorem dX13_van_0 : decode cX13_van 0 = .ok (.aload_n 0, 1) := by decide +kernel
theorem dX13_van_1 : decode cX13_van 1 = .ok (.iconst 0, 1) := by decide +kernel
theorem dX13_van_2 : decode cX13_van 2 = .ok (.putfield 95, 3) := by decide +kernel
theorem dX13_van_5 : decode cX13_van 5 = .ok (.aload_n 0, 1) := by decide +kernel
theorem dX13_van_6 : decode cX13_van 6 = .ok (.iload_n 1, 1) := by decide +kernel
theorem dX13_van_7 : decode cX13_van 7 = .ok (.invokevirtual 218, 3) := by decide +kernel
theorem dX13_van_10 : decode cX13_van 10 = .ok (.ifCond .eq 22, 3) := by decide +kernel
theorem dX13_van_13 : decode cX13_van 13 = .ok (.iload_n 2, 1) := by decide +kernel
theorem dX13_van_14 : decode cX13_van 14 = .ok (.iconst 0, 1) := by decide +kernel
theorem dX13_van_15 : decode cX13_van 15 = .ok (.bipush 9, 2) := by decide +kernel
theorem dX13_van_17 : decode cX13_van 17 = .ok (.invokestatic 98, 3) := by decide +kernel
theorem dX13_van_20 : decode cX13_van 20 = .ok (.ifCond .eq 12, 3) := by decide +kernel
theorem dX13_van_23 : decode cX13_van 23 = .ok (.aload_n 0, 1) := by decide +kernel
theorem dX13_van_24 : decode cX13_van 24 = .ok (.iload_n 1, 1) := by decide +kernel
theorem dX13_van_25 : decode cX13_van 25 = .ok (.iload_n 2, 1) := by decide +kernel
theorem dX13_van_26 : decode cX13_van 26 = .ok (.invokevirtual 234, 3) := by decide +kernel
theorem dX13_van_29 : decode cX13_van 29 = .ok (.goto 8, 3) := by decide +kernel
theorem dX13_van_32 : decode cX13_van 32 = .ok (.aload_n 0, 1) := by decide +kernel
theorem dX13_van_33 : decode cX13_van 33 = .ok (.iconst 1, 1) := by decide +kernel
theorem dX13_van_34 : decode cX13_van 34 = .ok (.invokevirtual 120, 3) := by decide +kernel
theorem dX13_van_37 : decode cX13_van 37 = .ok (.ireturn, 1) := by decide +kernel
theorem dX13_stop_0 : decode cX13_stop 0 = .ok (.aload_n 0, 1) := by decide +kernel
theorem dX13_stop_1 : decode cX13_stop 1 = .ok (.iconst 0, 1) := by decide +kernel
theorem dX13_stop_2 : decode cX13_stop 2 = .ok (.putfield 95, 3) := by decide +kernel
theorem dX13_stop_5 : decode cX13_stop 5 = .ok (.aload_n 0, 1) := by decide +kernel
theorem dX13_stop_6 : decode cX13_stop 6 = .ok (.iload_n 1, 1) := by decide +kernel
theorem dX13_stop_7 : decode cX13_stop 7 = .ok (.invokevirtual 218, 3) := by decide +kernel
theorem dX13_stop_10 : decode cX13_stop 10 = .ok (.ifCond .eq 31, 3) := by decide +kernel
theorem dX13_stop_13 : decode cX13_stop 13 = .ok (.iload_n 2, 1) := by decide +kernel
theorem dX13_stop_14 : decode cX13_stop 14 = .ok (.iconst 0, 1) := by decide +kernel
theorem dX13_stop_15 : decode cX13_stop 15 = .ok (.aload_n 0, 1) := by decide +kernel
theorem dX13_stop_16 : decode cX13_stop 16 = .ok (.getfield 70, 3) := by decide +kernel
theorem dX13_stop_19 : decode cX13_stop 19 = .ok (.getfield 169, 3) := by decide +kernel
theorem dX13_stop_22 : decode cX13_stop 22 = .ok (.iload_n 1, 1) := by decide +kernel
theorem dX13_stop_23 : decode cX13_stop 23 = .ok (.iaload, 1) := by decide +kernel
theorem dX13_stop_24 : decode cX13_stop 24 = .ok (.iconst 1, 1) := by decide +kernel
theorem dX13_stop_25 : decode cX13_stop 25 = .ok (.isub, 1) := by decide +kernel
theorem dX13_stop_26 : decode cX13_stop 26 = .ok (.invokestatic 98, 3) := by decide +kernel
theorem dX13_stop_29 : decode cX13_stop 29 = .ok (.ifCond .eq 12, 3) := by decide +kernel
theorem dX13_stop_32 : decode cX13_stop 32 = .ok (.iload_n 3, 1) := by decide +kernel
theorem dX13_stop_33 : decode cX13_stop 33 = .ok (.iconst 0, 1) := by decide +kernel
theorem dX13_stop_34 : decode cX13_stop 34 = .ok (.iconst 3, 1) := by decide +kernel
theorem dX13_stop_35 : decode cX13_stop 35 = .ok (.invokestatic 98, 3) := by decide +kernel
theorem dX13_stop_38 : decode cX13_stop 38 = .ok (.ifCond .ne 9, 3) := by decide +kernel
theorem dX13_stop_41 : decode cX13_stop 41 = .ok (.aload_n 0, 1) := by decide +kernel
theorem dX13_stop_42 : decode cX13_stop 42 = .ok (.iconst 1, 1) := by decide +kernel
theorem dX13_stop_43 : decode cX13_stop 43 = .ok (.invokevirtual 120, 3) := by decide +kernel
theorem dX13_stop_46 : decode cX13_stop 46 = .ok (.ireturn, 1) := by decide +kernel
theorem dX13_stop_47 : decode cX13_stop 47 = .ok (.aload_n 0, 1) := by decide +kernel
theorem dX13_stop_48 : decode cX13_stop 48 = .ok (.iload_n 1, 1) := by decide +kernel
theorem dX13_stop_49 : decode cX13_stop 49 = .ok (.invokevirtual 210, 3) := by decide +kernel
theorem dX13_stop_52 : decode cX13_stop 52 = .ok (.pop, 1) := by decide +kernel
theorem dX13_stop_53 : decode cX13_stop 53 = .ok (.aload_n 0, 1) := by decide +kernel
theorem dX13_stop_54 : decode cX13_stop 54 = .ok (.getfield 26, 3) := by decide +kernel
theorem dX13_stop_57 : decode cX13_stop 57 = .ok (.aload_n 0, 1) := by decide +kernel
theorem dX13_stop_58 : decode cX13_stop 58 = .ok (.getfield 56, 3) := by decide +kernel
theorem dX13_stop_61 : decode cX13_stop 61 = .ok (.aload_n 0, 1) := by decide +kernel
theorem dX13_stop_62 : decode cX13_stop 62 = .ok (.getfield 77, 3) := by decide +kernel
theorem dX13_stop_65 : decode cX13_stop 65 = .ok (.iload_n 2, 1) := by decide +kernel
theorem dX13_stop_66 : decode cX13_stop 66 = .ok (.iaload, 1) := by decide +kernel
theorem dX13_stop_67 : decode cX13_stop 67 = .ok (.iaload, 1) := by decide +kernel
theorem dX13_stop_68 : decode cX13_stop 68 = .ok (.iaload, 1) := by decide +kernel
theorem dX13_stop_69 : decode cX13_stop 69 = .ok (.aload_n 0, 1) := by decide +kernel
theorem dX13_stop_70 : decode cX13_stop 70 = .ok (.getfield 80, 3) := by decide +kernel
theorem dX13_stop_73 : decode cX13_stop 73 = .ok (.iload_n 2, 1) := by decide +kernel
theorem dX13_stop_74 : decode cX13_stop 74 = .ok (.iaload, 1) := by decide +kernel
theorem dX13_stop_75 : decode cX13_stop 75 = .ok (.bipush 60, 2) := by decide +kernel
theorem dX13_stop_77 : decode cX13_stop 77 = .ok (.idiv, 1) := by decide +kernel
theorem dX13_stop_78 : decode cX13_stop 78 = .ok (.bipush 24, 2) := by decide +kernel
theorem dX13_stop_80 : decode cX13_stop 80 = .ok (.irem, 1) := by decide +kernel
theorem dX13_stop_81 : decode cX13_stop 81 = .ok (.ishr, 1) := by decide +kernel
theorem dX13_stop_82 : decode cX13_stop 82 = .ok (.iconst 1, 1) := by decide +kernel
theorem dX13_stop_83 : decode cX13_stop 83 = .ok (.iand, 1) := by decide +kernel
theorem dX13_stop_84 : decode cX13_stop 84 = .ok (.istore 4, 2) := by decide +kernel
theorem dX13_stop_86 : decode cX13_stop 86 = .ok (.iload_n 3, 1) := by decide +kernel
theorem dX13_stop_87 : decode cX13_stop 87 = .ok (.ifCond .ne 12, 3) := by decide +kernel
theorem dX13_stop_90 : decode cX13_stop 90 = .ok (.aload_n 0, 1) := by decide +kernel
theorem dX13_stop_91 : decode cX13_stop 91 = .ok (.getfield 80, 3) := by decide +kernel
theorem dX13_stop_94 : decode cX13_stop 94 = .ok (.iload_n 2, 1) := by decide +kernel
theorem dX13_stop_95 : decode cX13_stop 95 = .ok (.iaload, 1) := by decide +kernel
theorem dX13_stop_96 : decode cX13_stop 96 = .ok (.goto 33, 3) := by decide +kernel
theorem dX13_stop_99 : decode cX13_stop 99 = .ok (.iload_n 3, 1) := by decide +kernel
theorem dX13_stop_100 : decode cX13_stop 100 = .ok (.iconst 1, 1) := by decide +kernel
theorem dX13_stop_101 : decode cX13_stop 101 = .ok (.if_icmp .ne 12, 3) := by decide +kernel
theorem dX13_stop_104 : decode cX13_stop 104 = .ok (.aload_n 0, 1) := by decide +kernel
theorem dX13_stop_105 : decode cX13_stop 105 = .ok (.getfield 83, 3) := by decide +kernel
theorem dX13_stop_108 : decode cX13_stop 108 = .ok (.iload_n 2, 1) := by decide +kernel
theorem dX13_stop_109 : decode cX13_stop 109 = .ok (.iaload, 1) := by decide +kernel
theorem dX13_stop_110 : decode cX13_stop 110 = .ok (.goto 19, 3) := by decide +kernel
theorem dX13_stop_113 : decode cX13_stop 113 = .ok (.iload_n 3, 1) := by decide +kernel
theorem dX13_stop_114 : decode cX13_stop 114 = .ok (.iconst 2, 1) := by decide +kernel
theorem dX13_stop_115 : decode cX13_stop 115 = .ok (.if_icmp .ne 12, 3) := by decide +kernel
theorem dX13_stop_118 : decode cX13_stop 118 = .ok (.aload_n 0, 1) := by decide +kernel
theorem dX13_stop_119 : decode cX13_stop 119 = .ok (.getfield 86, 3) := by decide +kernel
theorem dX13_stop_122 : decode cX13_stop 122 = .ok (.iload_n 2, 1) := by decide +kernel
theorem dX13_stop_123 : decode cX13_stop 123 = .ok (.iaload, 1) := by decide +kernel
theorem dX13_stop_124 : decode cX13_stop 124 = .ok (.goto 5, 3) := by decide +kernel
theorem dX13_stop_127 : decode cX13_stop 127 = .ok (.iload 4, 2) := by decide +kernel
theorem dX13_stop_129 : decode cX13_stop 129 = .ok (.ireturn, 1) := by decide +kernel
theorem dX13_adds_0 : decode cX13_adds 0 = .ok (.aload_n 0, 1) := by decide +kernel
theorem dX13_adds_1 : decode cX13_adds 1 = .ok (.iconst 0, 1) := by decide +kernel
theorem dX13_adds_2 : decode cX13_adds 2 = .ok (.putfield 95, 3) := by decide +kernel
theorem dX13_adds_5 : decode cX13_adds 5 = .ok (.aload_n 0, 1) := by decide +kernel
theorem dX13_adds_6 : decode cX13_adds 6 = .ok (.iload_n 1, 1) := by decide +kernel
theorem dX13_adds_7 : decode cX13_adds 7 = .ok (.invokevirtual 163, 3) := by decide +kernel
theorem dX13_adds_10 : decode cX13_adds 10 = .ok (.ifCond .eq 28, 3) := by decide +kernel
theorem dX13_adds_13 : decode cX13_adds 13 = .ok (.aload_n 0, 1) := by decide +kernel
theorem dX13_adds_14 : decode cX13_adds 14 = .ok (.iload_n 2, 1) := by decide +kernel
theorem dX13_adds_15 : decode cX13_adds 15 = .ok (.invokevirtual 218, 3) := by decide +kernel
theorem dX13_adds_18 : decode cX13_adds 18 = .ok (.ifCond .eq 20, 3) := by decide +kernel
theorem dX13_adds_21 : decode cX13_adds 21 = .ok (.iload_n 3, 1) := by decide +kernel
theorem dX13_adds_22 : decode cX13_adds 22 = .ok (.iconst 0, 1) := by decide +kernel
theorem dX13_adds_23 : decode cX13_adds 23 = .ok (.aload_n 0, 1) := by decide +kernel
theorem dX13_adds_24 : decode cX13_adds 24 = .ok (.getfield 70, 3) := by decide +kernel
theorem dX13_adds_27 : decode cX13_adds 27 = .ok (.getfield 169, 3) := by decide +kernel
theorem dX13_adds_30 : decode cX13_adds 30 = .ok (.iload_n 2, 1) := by decide +kernel
theorem dX13_adds_31 : decode cX13_adds 31 = .ok (.iaload, 1) := by decide +kernel
theorem dX13_adds_32 : decode cX13_adds 32 = .ok (.invokestatic 98, 3) := by decide +kernel
theorem dX13_adds_35 : decode cX13_adds 35 = .ok (.ifCond .ne 9, 3) := by decide +kernel
theorem dX13_adds_38 : decode cX13_adds 38 = .ok (.aload_n 0, 1) := by decide +kernel
theorem dX13_adds_39 : decode cX13_adds 39 = .ok (.iconst 1, 1) := by decide +kernel
theorem dX13_adds_40 : decode cX13_adds 40 = .ok (.invokevirtual 120, 3) := by decide +kernel
theorem dX13_adds_43 : decode cX13_adds 43 = .ok (.ireturn, 1) := by decide +kernel
theorem dX13_adds_44 : decode cX13_adds 44 = .ok (.aload_n 0, 1) := by decide +kernel
theorem dX13_adds_45 : decode cX13_adds 45 = .ok (.iload_n 1, 1) := by decide +kernel
theorem dX13_adds_46 : decode cX13_adds 46 = .ok (.iload_n 2, 1) := by decide +kernel
theorem dX13_adds_47 : decode cX13_adds 47 = .ok (.iload_n 3, 1) := by decide +kernel
theorem dX13_adds_48 : decode cX13_adds 48 = .ok (.invokevirtual 224, 3) := by decide +kernel
theorem dX13_adds_51 : decode cX13_adds 51 = .ok (.ireturn, 1) := by decide +kernel
theorem dX13_best_0 : decode cX13_best 0 = .ok (.iconst (-1), 1) := by decide +kernel
theorem dX13_best_1 : decode cX13_best 1 = .ok (.istore_n 2, 1) := by decide +kernel
theorem dX13_best_2 : decode cX13_best 2 = .ok (.aload_n 0, 1) := by decide +kernel
theorem dX13_best_3 : decode cX13_best 3 = .ok (.ldc 217, 2) := by decide +kernel
theorem dX13_best_5 : decode cX13_best 5 = .ok (.putfield 237, 3) := by decide +kernel
theorem dX13_best_8 : decode cX13_best 8 = .ok (.iconst 0, 1) := by decide +kernel
theorem dX13_best_9 : decode cX13_best 9 = .ok (.istore_n 3, 1) := by decide +kernel
theorem dX13_best_10 : decode cX13_best 10 = .ok (.iload_n 3, 1) := by decide +kernel
theorem dX13_best_11 : decode cX13_best 11 = .ok (.aload_n 0, 1) := by decide +kernel
theorem dX13_best_12 : decode cX13_best 12 = .ok (.getfield 114, 3) := by decide +kernel
theorem dX13_best_15 : decode cX13_best 15 = .ok (.if_icmp .ge 68, 3) := by decide +kernel
theorem dX13_best_18 : decode cX13_best 18 = .ok (.iconst 0, 1) := by decide +kernel
theorem dX13_best_19 : decode cX13_best 19 = .ok (.istore 4, 2) := by decide +kernel
theorem dX13_best_21 : decode cX13_best 21 = .ok (.iload 4, 2) := by decide +kernel
theorem dX13_best_23 : decode cX13_best 23 = .ok (.aload_n 0, 1) := by decide +kernel
theorem dX13_best_24 : decode cX13_best 24 = .ok (.getfield 70, 3) := by decide +kernel
theorem dX13_best_27 : decode cX13_best 27 = .ok (.getfield 169, 3) := by decide +kernel
theorem dX13_best_30 : decode cX13_best 30 = .ok (.iload_n 3, 1) := by decide +kernel
theorem dX13_best_31 : decode cX13_best 31 = .ok (.iaload, 1) := by decide +kernel
theorem dX13_best_32 : decode cX13_best 32 = .ok (.if_icmp .gt 45, 3) := by decide +kernel
theorem dX13_best_35 : decode cX13_best 35 = .ok (.aload_n 0, 1) := by decide +kernel
theorem dX13_best_36 : decode cX13_best 36 = .ok (.iload_n 1, 1) := by decide +kernel
theorem dX13_best_37 : decode cX13_best 37 = .ok (.iload_n 3, 1) := by decide +kernel
theorem dX13_best_38 : decode cX13_best 38 = .ok (.iload 4, 2) := by decide +kernel
theorem dX13_best_40 : decode cX13_best 40 = .ok (.invokevirtual 224, 3) := by decide +kernel
theorem dX13_best_43 : decode cX13_best 43 = .ok (.istore 5, 2) := by decide +kernel
theorem dX13_best_45 : decode cX13_best 45 = .ok (.iload 5, 2) := by decide +kernel
theorem dX13_best_47 : decode cX13_best 47 = .ok (.aload_n 0, 1) := by decide +kernel
theorem dX13_best_48 : decode cX13_best 48 = .ok (.getfield 237, 3) := by decide +kernel
theorem dX13_best_51 : decode cX13_best 51 = .ok (.if_icmp .lt 6, 3) := by decide +kernel
theorem dX13_best_54 : decode cX13_best 54 = .ok (.goto 17, 3) := by decide +kernel
theorem dX13_best_57 : decode cX13_best 57 = .ok (.aload_n 0, 1) := by decide +kernel
theorem dX13_best_58 : decode cX13_best 58 = .ok (.iload 5, 2) := by decide +kernel
theorem dX13_best_60 : decode cX13_best 60 = .ok (.putfield 237, 3) := by decide +kernel
theorem dX13_best_63 : decode cX13_best 63 = .ok (.bipush 16, 2) := by decide +kernel
theorem dX13_best_65 : decode cX13_best 65 = .ok (.iload_n 3, 1) := by decide +kernel
theorem dX13_best_66 : decode cX13_best 66 = .ok (.imul, 1) := by decide +kernel
theorem dX13_best_67 : decode cX13_best 67 = .ok (.iload 4, 2) := by decide +kernel
theorem dX13_best_69 : decode cX13_best 69 = .ok (.iadd, 1) := by decide +kernel
theorem dX13_best_70 : decode cX13_best 70 = .ok (.istore_n 2, 1) := by decide +kernel
theorem dX13_best_71 : decode cX13_best 71 = .ok (.iinc 4 1, 3) := by decide +kernel
theorem dX13_best_74 : decode cX13_best 74 = .ok (.goto (-53), 3) := by decide +kernel
theorem dX13_best_77 : decode cX13_best 77 = .ok (.iinc 3 1, 3) := by decide +kernel
theorem dX13_best_80 : decode cX13_best 80 = .ok (.goto (-70), 3) := by decide +kernel
theorem dX13_best_83 : decode cX13_best 83 = .ok (.iload_n 2, 1) := by decide +kernel
theorem dX13_best_84 : decode cX13_best 84 = .ok (.ireturn, 1) := by decide +kernel
theorem dX13_cheapest_0 : decode cX13_cheapest 0 = .ok (.aload_n 0, 1) := by decide +kernel
theorem dX13_cheapest_1 : decode cX13_cheapest 1 = .ok (.iconst 0, 1) := by decide +kernel
theorem dX13_cheapest_2 : decode cX13_cheapest 2 = .ok (.putfield 95, 3) := by decide +kernel
theorem dX13_cheapest_5 : decode cX13_cheapest 5 = .ok (.aload_n 0, 1) := by decide +kernel
theorem dX13_cheapest_6 : decode cX13_cheapest 6 = .ok (.iload_n 1, 1) := by decide +kernel
theorem dX13_cheapest_7 : decode cX13_cheapest 7 = .ok (.invokevirtual 163, 3) := by decide +kernel
theorem dX13_cheapest_10 : decode cX13_cheapest 10 = .ok (.ifCond .ne 9, 3) := by decide +kernel
theorem dX13_cheapest_13 : decode cX13_cheapest 13 = .ok (.aload_n 0, 1) := by decide +kernel
theorem dX13_cheapest_14 : decode cX13_cheapest 14 = .ok (.iconst 1, 1) := by decide +kernel
theorem dX13_cheapest_15 : decode cX13_cheapest 15 = .ok (.invokevirtual 120, 3) := by decide +kernel
theorem dX13_cheapest_18 : decode cX13_cheapest 18 = .ok (.ireturn, 1) := by decide +kernel
theorem dX13_cheapest_19 : decode cX13_cheapest 19 = .ok (.aload_n 0, 1) := by decide +kernel
theorem dX13_cheapest_20 : decode cX13_cheapest 20 = .ok (.iload_n 1, 1) := by decide +kernel
theorem dX13_cheapest_21 : decode cX13_cheapest 21 = .ok (.invokevirtual 221, 3) := by decide +kernel
theorem dX13_cheapest_24 : decode cX13_cheapest 24 = .ok (.ifCond .eq 11, 3) := by decide +kernel
theorem dX13_cheapest_27 : decode cX13_cheapest 27 = .ok (.aload_n 0, 1) := by decide +kernel
theorem dX13_cheapest_28 : decode cX13_cheapest 28 = .ok (.iload_n 1, 1) := by decide +kernel
theorem dX13_cheapest_29 : decode cX13_cheapest 29 = .ok (.invokevirtual 240, 3) := by decide +kernel
theorem dX13_cheapest_32 : decode cX13_cheapest 32 = .ok (.goto 4, 3) := by decide +kernel
theorem dX13_cheapest_35 : decode cX13_cheapest 35 = .ok (.iconst (-1), 1) := by decide +kernel
theorem dX13_cheapest_36 : decode cX13_cheapest 36 = .ok (.ireturn, 1) := by decide +kernel
theorem dX13_plan_0 : decode cX13_plan 0 = .ok (.aload_n 0, 1) := by decide +kernel
theorem dX13_plan_1 : decode cX13_plan 1 = .ok (.iconst 0, 1) := by decide +kernel
theorem dX13_plan_2 : decode cX13_plan 2 = .ok (.putfield 95, 3) := by decide +kernel
theorem dX13_plan_5 : decode cX13_plan 5 = .ok (.iconst 0, 1) := by decide +kernel
theorem dX13_plan_6 : decode cX13_plan 6 = .ok (.istore_n 1, 1) := by decide +kernel
theorem dX13_plan_7 : decode cX13_plan 7 = .ok (.iconst (-1), 1) := by decide +kernel
theorem dX13_plan_8 : decode cX13_plan 8 = .ok (.istore_n 2, 1) := by decide +kernel
theorem dX13_plan_9 : decode cX13_plan 9 = .ok (.iconst (-1), 1) := by decide +kernel
theorem dX13_plan_10 : decode cX13_plan 10 = .ok (.istore_n 3, 1) := by decide +kernel
theorem dX13_plan_11 : decode cX13_plan 11 = .ok (.ldc 217, 2) := by decide +kernel
theorem dX13_plan_13 : decode cX13_plan 13 = .ok (.istore 4, 2) := by decide +kernel
theorem dX13_plan_15 : decode cX13_plan 15 = .ok (.iconst 0, 1) := by decide +kernel
theorem dX13_plan_16 : decode cX13_plan 16 = .ok (.istore 5, 2) := by decide +kernel
theorem dX13_plan_18 : decode cX13_plan 18 = .ok (.iload 5, 2) := by decide +kernel
theorem dX13_plan_20 : decode cX13_plan 20 = .ok (.aload_n 0, 1) := by decide +kernel
theorem dX13_plan_21 : decode cX13_plan 21 = .ok (.getfield 117, 3) := by decide +kernel
theorem dX13_plan_24 : decode cX13_plan 24 = .ok (.if_icmp .ge 59, 3) := by decide +kernel
theorem dX13_plan_27 : decode cX13_plan 27 = .ok (.aload_n 0, 1) := by decide +kernel
theorem dX13_plan_28 : decode cX13_plan 28 = .ok (.iload 5, 2) := by decide +kernel
theorem dX13_plan_30 : decode cX13_plan 30 = .ok (.invokevirtual 221, 3) := by decide +kernel
theorem dX13_plan_33 : decode cX13_plan 33 = .ok (.ifCond .ne 6, 3) := by decide +kernel
theorem dX13_plan_36 : decode cX13_plan 36 = .ok (.goto 41, 3) := by decide +kernel
theorem dX13_plan_39 : decode cX13_plan 39 = .ok (.aload_n 0, 1) := by decide +kernel
theorem dX13_plan_40 : decode cX13_plan 40 = .ok (.iload 5, 2) := by decide +kernel
theorem dX13_plan_42 : decode cX13_plan 42 = .ok (.invokevirtual 240, 3) := by decide +kernel
theorem dX13_plan_45 : decode cX13_plan 45 = .ok (.istore 6, 2) := by decide +kernel
theorem dX13_plan_47 : decode cX13_plan 47 = .ok (.iload 6, 2) := by decide +kernel
theorem dX13_plan_49 : decode cX13_plan 49 = .ok (.iconst (-1), 1) := by decide +kernel
theorem dX13_plan_50 : decode cX13_plan 50 = .ok (.if_icmp .eq 27, 3) := by decide +kernel
theorem dX13_plan_53 : decode cX13_plan 53 = .ok (.aload_n 0, 1) := by decide +kernel
theorem dX13_plan_54 : decode cX13_plan 54 = .ok (.getfield 237, 3) := by decide +kernel
theorem dX13_plan_57 : decode cX13_plan 57 = .ok (.iload 4, 2) := by decide +kernel
theorem dX13_plan_59 : decode cX13_plan 59 = .ok (.if_icmp .lt 6, 3) := by decide +kernel
theorem dX13_plan_62 : decode cX13_plan 62 = .ok (.goto 15, 3) := by decide +kernel
theorem dX13_plan_65 : decode cX13_plan 65 = .ok (.aload_n 0, 1) := by decide +kernel
theorem dX13_plan_66 : decode cX13_plan 66 = .ok (.getfield 237, 3) := by decide +kernel
theorem dX13_plan_69 : decode cX13_plan 69 = .ok (.istore 4, 2) := by decide +kernel
theorem dX13_plan_71 : decode cX13_plan 71 = .ok (.iload 5, 2) := by decide +kernel
theorem dX13_plan_73 : decode cX13_plan 73 = .ok (.istore_n 2, 1) := by decide +kernel
theorem dX13_plan_74 : decode cX13_plan 74 = .ok (.iload 6, 2) := by decide +kernel
theorem dX13_plan_76 : decode cX13_plan 76 = .ok (.istore_n 3, 1) := by decide +kernel
theorem dX13_plan_77 : decode cX13_plan 77 = .ok (.iinc 5 1, 3) := by decide +kernel
theorem dX13_plan_80 : decode cX13_plan 80 = .ok (.goto (-62), 3) := by decide +kernel
theorem dX13_plan_83 : decode cX13_plan 83 = .ok (.iload_n 2, 1) := by decide +kernel
theorem dX13_plan_84 : decode cX13_plan 84 = .ok (.iconst (-1), 1) := by decide +kernel
theorem dX13_plan_85 : decode cX13_plan 85 = .ok (.if_icmp .ne 5, 3) := by decide +kernel
theorem dX13_plan_88 : decode cX13_plan 88 = .ok (.iload_n 1, 1) := by decide +kernel
theorem dX13_plan_89 : decode cX13_plan 89 = .ok (.ireturn, 1) := by decide +kernel
theorem dX13_plan_90 : decode cX13_plan 90 = .ok (.aload_n 0, 1) := by decide +kernel
theorem dX13_plan_91 : decode cX13_plan 91 = .ok (.iload_n 2, 1) := by decide +kernel
theorem dX13_plan_92 : decode cX13_plan 92 = .ok (.iload_n 3, 1) := by decide +kernel
theorem dX13_plan_93 : decode cX13_plan 93 = .ok (.bipush 16, 2) := by decide +kernel
theorem dX13_plan_95 : decode cX13_plan 95 = .ok (.idiv, 1) := by decide +kernel
theorem dX13_plan_96 : decode cX13_plan 96 = .ok (.iload_n 3, 1) := by decide +kernel
theorem dX13_plan_97 : decode cX13_plan 97 = .ok (.bipush 16, 2) := by decide +kernel
theorem dX13_plan_99 : decode cX13_plan 99 = .ok (.irem, 1) := by decide +kernel
theorem dX13_plan_100 : decode cX13_plan 100 = .ok (.invokevirtual 224, 3) := by decide +kernel
theorem dX13_plan_103 : decode cX13_plan 103 = .ok (.pop, 1) := by decide +kernel
theorem dX13_plan_104 : decode cX13_plan 104 = .ok (.aload_n 0, 1) := by decide +kernel
theorem dX13_plan_105 : decode cX13_plan 105 = .ok (.iload_n 3, 1) := by decide +kernel
theorem dX13_plan_106 : decode cX13_plan 106 = .ok (.bipush 16, 2) := by decide +kernel
theorem dX13_plan_108 : decode cX13_plan 108 = .ok (.idiv, 1) := by decide +kernel
theorem dX13_plan_109 : decode cX13_plan 109 = .ok (.invokevirtual 228, 3) := by decide +kernel
theorem dX13_plan_112 : decode cX13_plan 112 = .ok (.iinc 1 1, 3) := by decide +kernel
theorem dX13_plan_115 : decode cX13_plan 115 = .ok (.goto (-108), 3) := by decide +kernel
theorem dX13_turn_0 : decode cX13_turn 0 = .ok (.iload_n 1, 1) := by decide +kernel
theorem dX13_turn_1 : decode cX13_turn 1 = .ok (.istore_n 3, 1) := by decide +kernel
theorem dX13_turn_2 : decode cX13_turn 2 = .ok (.iload_n 2, 1) := by decide +kernel
theorem dX13_turn_3 : decode cX13_turn 3 = .ok (.istore 4, 2) := by decide +kernel
theorem dX13_turn_5 : decode cX13_turn 5 = .ok (.iload_n 3, 1) := by decide +kernel
theorem dX13_turn_6 : decode cX13_turn 6 = .ok (.iload 4, 2) := by decide +kernel
theorem dX13_turn_8 : decode cX13_turn 8 = .ok (.if_icmp .ge 42, 3) := by decide +kernel
theorem dX13_turn_11 : decode cX13_turn 11 = .ok (.aload_n 0, 1) := by decide +kernel
theorem dX13_turn_12 : decode cX13_turn 12 = .ok (.getfield 77, 3) := by decide +kernel
theorem dX13_turn_15 : decode cX13_turn 15 = .ok (.iload_n 3, 1) := by decide +kernel
theorem dX13_turn_16 : decode cX13_turn 16 = .ok (.iaload, 1) := by decide +kernel
theorem dX13_turn_17 : decode cX13_turn 17 = .ok (.istore 5, 2) := by decide +kernel
theorem dX13_turn_19 : decode cX13_turn 19 = .ok (.aload_n 0, 1) := by decide +kernel
theorem dX13_turn_20 : decode cX13_turn 20 = .ok (.getfield 77, 3) := by decide +kernel
theorem dX13_turn_23 : decode cX13_turn 23 = .ok (.iload_n 3, 1) := by decide +kernel
theorem dX13_turn_24 : decode cX13_turn 24 = .ok (.aload_n 0, 1) := by decide +kernel
theorem dX13_turn_25 : decode cX13_turn 25 = .ok (.getfield 77, 3) := by decide +kernel
theorem dX13_turn_28 : decode cX13_turn 28 = .ok (.iload 4, 2) := by decide +kernel
theorem dX13_turn_30 : decode cX13_turn 30 = .ok (.iaload, 1) := by decide +kernel
theorem dX13_turn_31 : decode cX13_turn 31 = .ok (.iastore, 1) := by decide +kernel
theorem dX13_turn_32 : decode cX13_turn 32 = .ok (.aload_n 0, 1) := by decide +kernel
theorem dX13_turn_33 : decode cX13_turn 33 = .ok (.getfield 77, 3) := by decide +kernel
theorem dX13_turn_36 : decode cX13_turn 36 = .ok (.iload 4, 2) := by decide +kernel
theorem dX13_turn_38 : decode cX13_turn 38 = .ok (.iload 5, 2) := by decide +kernel
theorem dX13_turn_40 : decode cX13_turn 40 = .ok (.iastore, 1) := by decide +kernel
theorem dX13_turn_41 : decode cX13_turn 41 = .ok (.iinc 3 1, 3) := by decide +kernel
theorem dX13_turn_44 : decode cX13_turn 44 = .ok (.iinc 4 (-1), 3) := by decide +kernel
theorem dX13_turn_47 : decode cX13_turn 47 = .ok (.goto (-42), 3) := by decide +kernel
theorem dX13_turn_50 : decode cX13_turn 50 = .ok (.return_, 1) := by decide +kernel
theorem dX13_improve_0 : decode cX13_improve 0 = .ok (.aload_n 0, 1) := by decide +kernel
theorem dX13_improve_1 : decode cX13_improve 1 = .ok (.iconst 0, 1) := by decide +kernel
theorem dX13_improve_2 : decode cX13_improve 2 = .ok (.putfield 95, 3) := by decide +kernel
theorem dX13_improve_5 : decode cX13_improve 5 = .ok (.aload_n 0, 1) := by decide +kernel
theorem dX13_improve_6 : decode cX13_improve 6 = .ok (.iload_n 1, 1) := by decide +kernel
theorem dX13_improve_7 : decode cX13_improve 7 = .ok (.invokevirtual 218, 3) := by decide +kernel
theorem dX13_improve_10 : decode cX13_improve 10 = .ok (.ifCond .ne 9, 3) := by decide +kernel
theorem dX13_improve_13 : decode cX13_improve 13 = .ok (.aload_n 0, 1) := by decide +kernel
theorem dX13_improve_14 : decode cX13_improve 14 = .ok (.iconst 1, 1) := by decide +kernel
theorem dX13_improve_15 : decode cX13_improve 15 = .ok (.invokevirtual 120, 3) := by decide +kernel
theorem dX13_improve_18 : decode cX13_improve 18 = .ok (.ireturn, 1) := by decide +kernel
theorem dX13_improve_19 : decode cX13_improve 19 = .ok (.aload_n 0, 1) := by decide +kernel
theorem dX13_improve_20 : decode cX13_improve 20 = .ok (.iload_n 1, 1) := by decide +kernel
theorem dX13_improve_21 : decode cX13_improve 21 = .ok (.invokevirtual 210, 3) := by decide +kernel
theorem dX13_improve_24 : decode cX13_improve 24 = .ok (.istore_n 2, 1) := by decide +kernel
theorem dX13_improve_25 : decode cX13_improve 25 = .ok (.iload_n 2, 1) := by decide +kernel
theorem dX13_improve_26 : decode cX13_improve 26 = .ok (.istore_n 3, 1) := by decide +kernel
theorem dX13_improve_27 : decode cX13_improve 27 = .ok (.iconst (-1), 1) := by decide +kernel
theorem dX13_improve_28 : decode cX13_improve 28 = .ok (.istore 4, 2) := by decide +kernel
theorem dX13_improve_30 : decode cX13_improve 30 = .ok (.iconst (-1), 1) := by decide +kernel
theorem dX13_improve_31 : decode cX13_improve 31 = .ok (.istore 5, 2) := by decide +kernel
theorem dX13_improve_33 : decode cX13_improve 33 = .ok (.iconst 0, 1) := by decide +kernel
theorem dX13_improve_34 : decode cX13_improve 34 = .ok (.istore 6, 2) := by decide +kernel
theorem dX13_improve_36 : decode cX13_improve 36 = .ok (.iload 6, 2) := by decide +kernel
theorem dX13_improve_38 : decode cX13_improve 38 = .ok (.aload_n 0, 1) := by decide +kernel
theorem dX13_improve_39 : decode cX13_improve 39 = .ok (.getfield 70, 3) := by decide +kernel
theorem dX13_improve_42 : decode cX13_improve 42 = .ok (.getfield 169, 3) := by decide +kernel
theorem dX13_improve_45 : decode cX13_improve 45 = .ok (.iload_n 1, 1) := by decide +kernel
theorem dX13_improve_46 : decode cX13_improve 46 = .ok (.iaload, 1) := by decide +kernel
theorem dX13_improve_47 : decode cX13_improve 47 = .ok (.if_icmp .ge 88, 3) := by decide +kernel
theorem dX13_improve_50 : decode cX13_improve 50 = .ok (.iload 6, 2) := by decide +kernel
theorem dX13_improve_52 : decode cX13_improve 52 = .ok (.iconst 1, 1) := by decide +kernel
theorem dX13_improve_53 : decode cX13_improve 53 = .ok (.iadd, 1) := by decide +kernel
theorem dX13_improve_54 : decode cX13_improve 54 = .ok (.istore 7, 2) := by decide +kernel
theorem dX13_improve_56 : decode cX13_improve 56 = .ok (.iload 7, 2) := by decide +kernel
theorem dX13_improve_58 : decode cX13_improve 58 = .ok (.aload_n 0, 1) := by decide +kernel
theorem dX13_improve_59 : decode cX13_improve 59 = .ok (.getfield 70, 3) := by decide +kernel
theorem dX13_improve_62 : decode cX13_improve 62 = .ok (.getfield 169, 3) := by decide +kernel
theorem dX13_improve_65 : decode cX13_improve 65 = .ok (.iload_n 1, 1) := by decide +kernel
theorem dX13_improve_66 : decode cX13_improve 66 = .ok (.iaload, 1) := by decide +kernel
theorem dX13_improve_67 : decode cX13_improve 67 = .ok (.if_icmp .ge 62, 3) := by decide +kernel
theorem dX13_improve_70 : decode cX13_improve 70 = .ok (.aload_n 0, 1) := by decide +kernel
theorem dX13_improve_71 : decode cX13_improve 71 = .ok (.iload_n 1, 1) := by decide +kernel
theorem dX13_improve_72 : decode cX13_improve 72 = .ok (.invokevirtual 203, 3) := by decide +kernel
theorem dX13_improve_75 : decode cX13_improve 75 = .ok (.aload_n 0, 1) := by decide +kernel
theorem dX13_improve_76 : decode cX13_improve 76 = .ok (.iload 6, 2) := by decide +kernel
theorem dX13_improve_78 : decode cX13_improve 78 = .ok (.iload 7, 2) := by decide +kernel
theorem dX13_improve_80 : decode cX13_improve 80 = .ok (.invokevirtual 243, 3) := by decide +kernel
theorem dX13_improve_83 : decode cX13_improve 83 = .ok (.aload_n 0, 1) := by decide +kernel
theorem dX13_improve_84 : decode cX13_improve 84 = .ok (.iload_n 1, 1) := by decide +kernel
theorem dX13_improve_85 : decode cX13_improve 85 = .ok (.invokevirtual 207, 3) := by decide +kernel
theorem dX13_improve_88 : decode cX13_improve 88 = .ok (.istore 8, 2) := by decide +kernel
theorem dX13_improve_90 : decode cX13_improve 90 = .ok (.aload_n 0, 1) := by decide +kernel
theorem dX13_improve_91 : decode cX13_improve 91 = .ok (.getfield 187, 3) := by decide +kernel
theorem dX13_improve_94 : decode cX13_improve 94 = .ok (.aload_n 0, 1) := by decide +kernel
theorem dX13_improve_95 : decode cX13_improve 95 = .ok (.getfield 41, 3) := by decide +kernel
theorem dX13_improve_98 : decode cX13_improve 98 = .ok (.iload_n 1, 1) := by decide +kernel
theorem dX13_improve_99 : decode cX13_improve 99 = .ok (.iaload, 1) := by decide +kernel
theorem dX13_improve_100 : decode cX13_improve 100 = .ok (.if_icmp .gt 23, 3) := by decide +kernel
theorem dX13_improve_103 : decode cX13_improve 103 = .ok (.iload 8, 2) := by decide +kernel
theorem dX13_improve_105 : decode cX13_improve 105 = .ok (.iload_n 3, 1) := by decide +kernel
theorem dX13_improve_106 : decode cX13_improve 106 = .ok (.if_icmp .lt 6, 3) := by decide +kernel
theorem dX13_improve_109 : decode cX13_improve 109 = .ok (.goto 14, 3) := by decide +kernel
theorem dX13_improve_112 : decode cX13_improve 112 = .ok (.iload 8, 2) := by decide +kernel
theorem dX13_improve_114 : decode cX13_improve 114 = .ok (.istore_n 3, 1) := by decide +kernel
theorem dX13_improve_115 : decode cX13_improve 115 = .ok (.iload 6, 2) := by decide +kernel
theorem dX13_improve_117 : decode cX13_improve 117 = .ok (.istore 4, 2) := by decide +kernel
theorem dX13_improve_119 : decode cX13_improve 119 = .ok (.iload 7, 2) := by decide +kernel
theorem dX13_improve_121 : decode cX13_improve 121 = .ok (.istore 5, 2) := by decide +kernel
theorem dX13_improve_123 : decode cX13_improve 123 = .ok (.iinc 7 1, 3) := by decide +kernel
theorem dX13_improve_126 : decode cX13_improve 126 = .ok (.goto (-70), 3) := by decide +kernel
theorem dX13_improve_129 : decode cX13_improve 129 = .ok (.iinc 6 1, 3) := by decide +kernel
theorem dX13_improve_132 : decode cX13_improve 132 = .ok (.goto (-96), 3) := by decide +kernel
theorem dX13_improve_135 : decode cX13_improve 135 = .ok (.iload 4, 2) := by decide +kernel
theorem dX13_improve_137 : decode cX13_improve 137 = .ok (.iconst (-1), 1) := by decide +kernel
theorem dX13_improve_138 : decode cX13_improve 138 = .ok (.if_icmp .ne 5, 3) := by decide +kernel
theorem dX13_improve_141 : decode cX13_improve 141 = .ok (.iconst 0, 1) := by decide +kernel
theorem dX13_improve_142 : decode cX13_improve 142 = .ok (.ireturn, 1) := by decide +kernel
theorem dX13_improve_143 : decode cX13_improve 143 = .ok (.aload_n 0, 1) := by decide +kernel
theorem dX13_improve_144 : decode cX13_improve 144 = .ok (.iload_n 1, 1) := by decide +kernel
theorem dX13_improve_145 : decode cX13_improve 145 = .ok (.invokevirtual 203, 3) := by decide +kernel
theorem dX13_improve_148 : decode cX13_improve 148 = .ok (.aload_n 0, 1) := by decide +kernel
theorem dX13_improve_149 : decode cX13_improve 149 = .ok (.iload 4, 2) := by decide +kernel
theorem dX13_improve_151 : decode cX13_improve 151 = .ok (.iload 5, 2) := by decide +kernel
theorem dX13_improve_153 : decode cX13_improve 153 = .ok (.invokevirtual 243, 3) := by decide +kernel
theorem dX13_improve_156 : decode cX13_improve 156 = .ok (.aload_n 0, 1) := by decide +kernel
theorem dX13_improve_157 : decode cX13_improve 157 = .ok (.iload_n 1, 1) := by decide +kernel
theorem dX13_improve_158 : decode cX13_improve 158 = .ok (.invokevirtual 228, 3) := by decide +kernel
theorem dX13_improve_161 : decode cX13_improve 161 = .ok (.iload_n 2, 1) := by decide +kernel
theorem dX13_improve_162 : decode cX13_improve 162 = .ok (.iload_n 3, 1) := by decide +kernel
theorem dX13_improve_163 : decode cX13_improve 163 = .ok (.isub, 1) := by decide +kernel
theorem dX13_improve_164 : decode cX13_improve 164 = .ok (.ireturn, 1) := by decide +kernel
theorem dX13_placeOf_0 : decode cX13_placeOf 0 = .ok (.iconst 0, 1) := by decide +kernel
theorem dX13_placeOf_1 : decode cX13_placeOf 1 = .ok (.istore_n 3, 1) := by decide +kernel
theorem dX13_placeOf_2 : decode cX13_placeOf 2 = .ok (.aload_n 0, 1) := by decide +kernel
theorem dX13_placeOf_3 : decode cX13_placeOf 3 = .ok (.getfield 70, 3) := by decide +kernel
theorem dX13_placeOf_6 : decode cX13_placeOf 6 = .ok (.getfield 175, 3) := by decide +kernel
theorem dX13_placeOf_9 : decode cX13_placeOf 9 = .ok (.bipush 12, 2) := by decide +kernel
theorem dX13_placeOf_11 : decode cX13_placeOf 11 = .ok (.iload_n 2, 1) := by decide +kernel
theorem dX13_placeOf_12 : decode cX13_placeOf 12 = .ok (.imul, 1) := by decide +kernel
theorem dX13_placeOf_13 : decode cX13_placeOf 13 = .ok (.iload_n 3, 1) := by decide +kernel
theorem dX13_placeOf_14 : decode cX13_placeOf 14 = .ok (.iadd, 1) := by decide +kernel
theorem dX13_placeOf_15 : decode cX13_placeOf 15 = .ok (.iaload, 1) := by decide +kernel
theorem dX13_placeOf_16 : decode cX13_placeOf 16 = .ok (.iload_n 1, 1) := by decide +kernel
theorem dX13_placeOf_17 : decode cX13_placeOf 17 = .ok (.if_icmp .eq 9, 3) := by decide +kernel
theorem dX13_placeOf_20 : decode cX13_placeOf 20 = .ok (.iinc 3 1, 3) := by decide +kernel
theorem dX13_placeOf_23 : decode cX13_placeOf 23 = .ok (.goto (-21), 3) := by decide +kernel
theorem dX13_placeOf_26 : decode cX13_placeOf 26 = .ok (.iload_n 3, 1) := by decide +kernel
theorem dX13_placeOf_27 : decode cX13_placeOf 27 = .ok (.ireturn, 1) := by decide +kernel
theorem dX13_moved_0 : decode cX13_moved 0 = .ok (.aload_n 0, 1) := by decide +kernel
theorem dX13_moved_1 : decode cX13_moved 1 = .ok (.iload_n 2, 1) := by decide +kernel
theorem dX13_moved_2 : decode cX13_moved 2 = .ok (.invokevirtual 210, 3) := by decide +kernel
theorem dX13_moved_5 : decode cX13_moved 5 = .ok (.istore 5, 2) := by decide +kernel
theorem dX13_moved_7 : decode cX13_moved 7 = .ok (.aload_n 0, 1) := by decide +kernel
theorem dX13_moved_8 : decode cX13_moved 8 = .ok (.aload_n 0, 1) := by decide +kernel
theorem dX13_moved_9 : decode cX13_moved 9 = .ok (.iload_n 1, 1) := by decide +kernel
theorem dX13_moved_10 : decode cX13_moved 10 = .ok (.iload_n 2, 1) := by decide +kernel
theorem dX13_moved_11 : decode cX13_moved 11 = .ok (.invokevirtual 246, 3) := by decide +kernel
theorem dX13_moved_14 : decode cX13_moved 14 = .ok (.invokevirtual 231, 3) := by decide +kernel
theorem dX13_moved_17 : decode cX13_moved 17 = .ok (.iload_n 3, 1) := by decide +kernel
theorem dX13_moved_18 : decode cX13_moved 18 = .ok (.iload_n 2, 1) := by decide +kernel
theorem dX13_moved_19 : decode cX13_moved 19 = .ok (.if_icmp .eq 40, 3) := by decide +kernel
theorem dX13_moved_22 : decode cX13_moved 22 = .ok (.iload 5, 2) := by decide +kernel
theorem dX13_moved_24 : decode cX13_moved 24 = .ok (.aload_n 0, 1) := by decide +kernel
theorem dX13_moved_25 : decode cX13_moved 25 = .ok (.iload_n 2, 1) := by decide +kernel
theorem dX13_moved_26 : decode cX13_moved 26 = .ok (.invokevirtual 207, 3) := by decide +kernel
theorem dX13_moved_29 : decode cX13_moved 29 = .ok (.isub, 1) := by decide +kernel
theorem dX13_moved_30 : decode cX13_moved 30 = .ok (.istore 6, 2) := by decide +kernel
theorem dX13_moved_32 : decode cX13_moved 32 = .ok (.aload_n 0, 1) := by decide +kernel
theorem dX13_moved_33 : decode cX13_moved 33 = .ok (.iload_n 1, 1) := by decide +kernel
theorem dX13_moved_34 : decode cX13_moved 34 = .ok (.iload_n 3, 1) := by decide +kernel
theorem dX13_moved_35 : decode cX13_moved 35 = .ok (.iload 4, 2) := by decide +kernel
theorem dX13_moved_37 : decode cX13_moved 37 = .ok (.invokevirtual 224, 3) := by decide +kernel
theorem dX13_moved_40 : decode cX13_moved 40 = .ok (.istore 7, 2) := by decide +kernel
theorem dX13_moved_42 : decode cX13_moved 42 = .ok (.iload 7, 2) := by decide +kernel
theorem dX13_moved_44 : decode cX13_moved 44 = .ok (.ldc 217, 2) := by decide +kernel
theorem dX13_moved_46 : decode cX13_moved 46 = .ok (.if_icmp .ne 7, 3) := by decide +kernel
theorem dX13_moved_49 : decode cX13_moved 49 = .ok (.iconst (-1), 1) := by decide +kernel
theorem dX13_moved_50 : decode cX13_moved 50 = .ok (.goto 8, 3) := by decide +kernel
theorem dX13_moved_53 : decode cX13_moved 53 = .ok (.iload 6, 2) := by decide +kernel
theorem dX13_moved_55 : decode cX13_moved 55 = .ok (.iload 7, 2) := by decide +kernel
theorem dX13_moved_57 : decode cX13_moved 57 = .ok (.isub, 1) := by decide +kernel
theorem dX13_moved_58 : decode cX13_moved 58 = .ok (.ireturn, 1) := by decide +kernel
theorem dX13_moved_59 : decode cX13_moved 59 = .ok (.aload_n 0, 1) := by decide +kernel
theorem dX13_moved_60 : decode cX13_moved 60 = .ok (.iload_n 1, 1) := by decide +kernel
theorem dX13_moved_61 : decode cX13_moved 61 = .ok (.iload 4, 2) := by decide +kernel
theorem dX13_moved_63 : decode cX13_moved 63 = .ok (.invokevirtual 213, 3) := by decide +kernel
theorem dX13_moved_66 : decode cX13_moved 66 = .ok (.aload_n 0, 1) := by decide +kernel
theorem dX13_moved_67 : decode cX13_moved 67 = .ok (.iload_n 2, 1) := by decide +kernel
theorem dX13_moved_68 : decode cX13_moved 68 = .ok (.invokevirtual 207, 3) := by decide +kernel
theorem dX13_moved_71 : decode cX13_moved 71 = .ok (.istore 6, 2) := by decide +kernel
theorem dX13_moved_73 : decode cX13_moved 73 = .ok (.aload_n 0, 1) := by decide +kernel
theorem dX13_moved_74 : decode cX13_moved 74 = .ok (.getfield 187, 3) := by decide +kernel
theorem dX13_moved_77 : decode cX13_moved 77 = .ok (.aload_n 0, 1) := by decide +kernel
theorem dX13_moved_78 : decode cX13_moved 78 = .ok (.getfield 41, 3) := by decide +kernel
theorem dX13_moved_81 : decode cX13_moved 81 = .ok (.iload_n 2, 1) := by decide +kernel
theorem dX13_moved_82 : decode cX13_moved 82 = .ok (.iaload, 1) := by decide +kernel
theorem dX13_moved_83 : decode cX13_moved 83 = .ok (.if_icmp .le 7, 3) := by decide +kernel
theorem dX13_moved_86 : decode cX13_moved 86 = .ok (.iconst (-1), 1) := by decide +kernel
theorem dX13_moved_87 : decode cX13_moved 87 = .ok (.goto 8, 3) := by decide +kernel
theorem dX13_moved_90 : decode cX13_moved 90 = .ok (.iload 5, 2) := by decide +kernel
theorem dX13_moved_92 : decode cX13_moved 92 = .ok (.iload 6, 2) := by decide +kernel
theorem dX13_moved_94 : decode cX13_moved 94 = .ok (.isub, 1) := by decide +kernel
theorem dX13_moved_95 : decode cX13_moved 95 = .ok (.ireturn, 1) := by decide +kernel
theorem dX13_move_0 : decode cX13_move 0 = .ok (.aload_n 0, 1) := by decide +kernel
theorem dX13_move_1 : decode cX13_move 1 = .ok (.iconst 0, 1) := by decide +kernel
theorem dX13_move_2 : decode cX13_move 2 = .ok (.putfield 95, 3) := by decide +kernel
theorem dX13_move_5 : decode cX13_move 5 = .ok (.iconst 0, 1) := by decide +kernel
theorem dX13_move_6 : decode cX13_move 6 = .ok (.istore_n 1, 1) := by decide +kernel
theorem dX13_move_7 : decode cX13_move 7 = .ok (.iconst (-1), 1) := by decide +kernel
theorem dX13_move_8 : decode cX13_move 8 = .ok (.istore_n 2, 1) := by decide +kernel
theorem dX13_move_9 : decode cX13_move 9 = .ok (.iconst (-1), 1) := by decide +kernel
theorem dX13_move_10 : decode cX13_move 10 = .ok (.istore_n 3, 1) := by decide +kernel
theorem dX13_move_11 : decode cX13_move 11 = .ok (.iconst 0, 1) := by decide +kernel
theorem dX13_move_12 : decode cX13_move 12 = .ok (.istore 4, 2) := by decide +kernel
theorem dX13_move_14 : decode cX13_move 14 = .ok (.iload 4, 2) := by decide +kernel
theorem dX13_move_16 : decode cX13_move 16 = .ok (.aload_n 0, 1) := by decide +kernel
theorem dX13_move_17 : decode cX13_move 17 = .ok (.getfield 117, 3) := by decide +kernel
theorem dX13_move_20 : decode cX13_move 20 = .ok (.if_icmp .ge 119, 3) := by decide +kernel
theorem dX13_move_23 : decode cX13_move 23 = .ok (.aload_n 0, 1) := by decide +kernel
theorem dX13_move_24 : decode cX13_move 24 = .ok (.getfield 70, 3) := by decide +kernel
theorem dX13_move_27 : decode cX13_move 27 = .ok (.iload 4, 2) := by decide +kernel
theorem dX13_move_29 : decode cX13_move 29 = .ok (.invokevirtual 160, 3) := by decide +kernel
theorem dX13_move_32 : decode cX13_move 32 = .ok (.istore 5, 2) := by decide +kernel
theorem dX13_move_34 : decode cX13_move 34 = .ok (.iconst 0, 1) := by decide +kernel
theorem dX13_move_35 : decode cX13_move 35 = .ok (.istore 6, 2) := by decide +kernel
theorem dX13_move_37 : decode cX13_move 37 = .ok (.iload 6, 2) := by decide +kernel
theorem dX13_move_39 : decode cX13_move 39 = .ok (.aload_n 0, 1) := by decide +kernel
theorem dX13_move_40 : decode cX13_move 40 = .ok (.getfield 114, 3) := by decide +kernel
theorem dX13_move_43 : decode cX13_move 43 = .ok (.if_icmp .ge 90, 3) := by decide +kernel
theorem dX13_move_46 : decode cX13_move 46 = .ok (.iload 5, 2) := by decide +kernel
theorem dX13_move_48 : decode cX13_move 48 = .ok (.iconst (-1), 1) := by decide +kernel
theorem dX13_move_49 : decode cX13_move 49 = .ok (.if_icmp .eq 84, 3) := by decide +kernel
theorem dX13_move_52 : decode cX13_move 52 = .ok (.iconst 0, 1) := by decide +kernel
theorem dX13_move_53 : decode cX13_move 53 = .ok (.istore 7, 2) := by decide +kernel
theorem dX13_move_55 : decode cX13_move 55 = .ok (.iload 7, 2) := by decide +kernel
theorem dX13_move_57 : decode cX13_move 57 = .ok (.aload_n 0, 1) := by decide +kernel
theorem dX13_move_58 : decode cX13_move 58 = .ok (.getfield 70, 3) := by decide +kernel
theorem dX13_move_61 : decode cX13_move 61 = .ok (.getfield 169, 3) := by decide +kernel
theorem dX13_move_64 : decode cX13_move 64 = .ok (.iload 6, 2) := by decide +kernel
theorem dX13_move_66 : decode cX13_move 66 = .ok (.iaload, 1) := by decide +kernel
theorem dX13_move_67 : decode cX13_move 67 = .ok (.iload 6, 2) := by decide +kernel
theorem dX13_move_69 : decode cX13_move 69 = .ok (.iload 5, 2) := by decide +kernel
theorem dX13_move_71 : decode cX13_move 71 = .ok (.if_icmp .ne 7, 3) := by decide +kernel
theorem dX13_move_74 : decode cX13_move 74 = .ok (.iconst 1, 1) := by decide +kernel
theorem dX13_move_75 : decode cX13_move 75 = .ok (.goto 4, 3) := by decide +kernel
theorem dX13_move_78 : decode cX13_move 78 = .ok (.iconst 0, 1) := by decide +kernel
theorem dX13_move_79 : decode cX13_move 79 = .ok (.isub, 1) := by decide +kernel
theorem dX13_move_80 : decode cX13_move 80 = .ok (.if_icmp .gt 47, 3) := by decide +kernel
theorem dX13_move_83 : decode cX13_move 83 = .ok (.aload_n 0, 1) := by decide +kernel
theorem dX13_move_84 : decode cX13_move 84 = .ok (.iload 4, 2) := by decide +kernel
theorem dX13_move_86 : decode cX13_move 86 = .ok (.iload 5, 2) := by decide +kernel
theorem dX13_move_88 : decode cX13_move 88 = .ok (.iload 6, 2) := by decide +kernel
theorem dX13_move_90 : decode cX13_move 90 = .ok (.iload 7, 2) := by decide +kernel
theorem dX13_move_92 : decode cX13_move 92 = .ok (.invokevirtual 249, 3) := by decide +kernel
theorem dX13_move_95 : decode cX13_move 95 = .ok (.istore 8, 2) := by decide +kernel
theorem dX13_move_97 : decode cX13_move 97 = .ok (.iload 8, 2) := by decide +kernel
theorem dX13_move_99 : decode cX13_move 99 = .ok (.iload_n 1, 1) := by decide +kernel
theorem dX13_move_100 : decode cX13_move 100 = .ok (.if_icmp .gt 6, 3) := by decide +kernel
theorem dX13_move_103 : decode cX13_move 103 = .ok (.goto 18, 3) := by decide +kernel
theorem dX13_move_106 : decode cX13_move 106 = .ok (.iload 8, 2) := by decide +kernel
theorem dX13_move_108 : decode cX13_move 108 = .ok (.istore_n 1, 1) := by decide +kernel
theorem dX13_move_109 : decode cX13_move 109 = .ok (.iload 4, 2) := by decide +kernel
theorem dX13_move_111 : decode cX13_move 111 = .ok (.istore_n 2, 1) := by decide +kernel
theorem dX13_move_112 : decode cX13_move 112 = .ok (.bipush 16, 2) := by decide +kernel
theorem dX13_move_114 : decode cX13_move 114 = .ok (.iload 6, 2) := by decide +kernel
theorem dX13_move_116 : decode cX13_move 116 = .ok (.imul, 1) := by decide +kernel
theorem dX13_move_117 : decode cX13_move 117 = .ok (.iload 7, 2) := by decide +kernel
theorem dX13_move_119 : decode cX13_move 119 = .ok (.iadd, 1) := by decide +kernel
theorem dX13_move_120 : decode cX13_move 120 = .ok (.istore_n 3, 1) := by decide +kernel
theorem dX13_move_121 : decode cX13_move 121 = .ok (.iinc 7 1, 3) := by decide +kernel
theorem dX13_move_124 : decode cX13_move 124 = .ok (.goto (-69), 3) := by decide +kernel
theorem dX13_move_127 : decode cX13_move 127 = .ok (.iinc 6 1, 3) := by decide +kernel
theorem dX13_move_130 : decode cX13_move 130 = .ok (.goto (-93), 3) := by decide +kernel
theorem dX13_move_133 : decode cX13_move 133 = .ok (.iinc 4 1, 3) := by decide +kernel
theorem dX13_move_136 : decode cX13_move 136 = .ok (.goto (-122), 3) := by decide +kernel
theorem dX13_move_139 : decode cX13_move 139 = .ok (.iload_n 2, 1) := by decide +kernel
theorem dX13_move_140 : decode cX13_move 140 = .ok (.iconst (-1), 1) := by decide +kernel
theorem dX13_move_141 : decode cX13_move 141 = .ok (.if_icmp .ne 5, 3) := by decide +kernel
theorem dX13_move_144 : decode cX13_move 144 = .ok (.iconst 0, 1) := by decide +kernel
theorem dX13_move_145 : decode cX13_move 145 = .ok (.ireturn, 1) := by decide +kernel
theorem dX13_move_146 : decode cX13_move 146 = .ok (.aload_n 0, 1) := by decide +kernel
theorem dX13_move_147 : decode cX13_move 147 = .ok (.getfield 70, 3) := by decide +kernel
theorem dX13_move_150 : decode cX13_move 150 = .ok (.iload_n 2, 1) := by decide +kernel
theorem dX13_move_151 : decode cX13_move 151 = .ok (.invokevirtual 160, 3) := by decide +kernel
theorem dX13_move_154 : decode cX13_move 154 = .ok (.istore 4, 2) := by decide +kernel
theorem dX13_move_156 : decode cX13_move 156 = .ok (.aload_n 0, 1) := by decide +kernel
theorem dX13_move_157 : decode cX13_move 157 = .ok (.iload 4, 2) := by decide +kernel
theorem dX13_move_159 : decode cX13_move 159 = .ok (.invokevirtual 203, 3) := by decide +kernel
theorem dX13_move_162 : decode cX13_move 162 = .ok (.aload_n 0, 1) := by decide +kernel
theorem dX13_move_163 : decode cX13_move 163 = .ok (.aload_n 0, 1) := by decide +kernel
theorem dX13_move_164 : decode cX13_move 164 = .ok (.iload_n 2, 1) := by decide +kernel
theorem dX13_move_165 : decode cX13_move 165 = .ok (.iload 4, 2) := by decide +kernel
theorem dX13_move_167 : decode cX13_move 167 = .ok (.invokevirtual 246, 3) := by decide +kernel
theorem dX13_move_170 : decode cX13_move 170 = .ok (.invokevirtual 231, 3) := by decide +kernel
theorem dX13_move_173 : decode cX13_move 173 = .ok (.aload_n 0, 1) := by decide +kernel
theorem dX13_move_174 : decode cX13_move 174 = .ok (.iload 4, 2) := by decide +kernel
theorem dX13_move_176 : decode cX13_move 176 = .ok (.invokevirtual 228, 3) := by decide +kernel
theorem dX13_move_179 : decode cX13_move 179 = .ok (.aload_n 0, 1) := by decide +kernel
theorem dX13_move_180 : decode cX13_move 180 = .ok (.iload_n 3, 1) := by decide +kernel
theorem dX13_move_181 : decode cX13_move 181 = .ok (.bipush 16, 2) := by decide +kernel
theorem dX13_move_183 : decode cX13_move 183 = .ok (.idiv, 1) := by decide +kernel
theorem dX13_move_184 : decode cX13_move 184 = .ok (.invokevirtual 203, 3) := by decide +kernel
theorem dX13_move_187 : decode cX13_move 187 = .ok (.aload_n 0, 1) := by decide +kernel
theorem dX13_move_188 : decode cX13_move 188 = .ok (.iload_n 2, 1) := by decide +kernel
theorem dX13_move_189 : decode cX13_move 189 = .ok (.iload_n 3, 1) := by decide +kernel
theorem dX13_move_190 : decode cX13_move 190 = .ok (.bipush 16, 2) := by decide +kernel
theorem dX13_move_192 : decode cX13_move 192 = .ok (.irem, 1) := by decide +kernel
theorem dX13_move_193 : decode cX13_move 193 = .ok (.invokevirtual 213, 3) := by decide +kernel
theorem dX13_move_196 : decode cX13_move 196 = .ok (.aload_n 0, 1) := by decide +kernel
theorem dX13_move_197 : decode cX13_move 197 = .ok (.iload_n 3, 1) := by decide +kernel
theorem dX13_move_198 : decode cX13_move 198 = .ok (.bipush 16, 2) := by decide +kernel
theorem dX13_move_200 : decode cX13_move 200 = .ok (.idiv, 1) := by decide +kernel
theorem dX13_move_201 : decode cX13_move 201 = .ok (.invokevirtual 228, 3) := by decide +kernel
theorem dX13_move_204 : decode cX13_move 204 = .ok (.iload_n 1, 1) := by decide +kernel
theorem dX13_move_205 : decode cX13_move 205 = .ok (.ireturn, 1) := by decide +kernel
theorem dX13_counted_0 : decode cX13_counted 0 = .ok (.iconst 0, 1) := by decide +kernel
theorem dX13_counted_1 : decode cX13_counted 1 = .ok (.istore_n 2, 1) := by decide +kernel
theorem dX13_counted_2 : decode cX13_counted 2 = .ok (.iconst 0, 1) := by decide +kernel
theorem dX13_counted_3 : decode cX13_counted 3 = .ok (.istore_n 3, 1) := by decide +kernel
theorem dX13_counted_4 : decode cX13_counted 4 = .ok (.iconst 0, 1) := by decide +kernel
theorem dX13_counted_5 : decode cX13_counted 5 = .ok (.istore 4, 2) := by decide +kernel
theorem dX13_counted_7 : decode cX13_counted 7 = .ok (.iload 4, 2) := by decide +kernel
theorem dX13_counted_9 : decode cX13_counted 9 = .ok (.aload_n 0, 1) := by decide +kernel
theorem dX13_counted_10 : decode cX13_counted 10 = .ok (.getfield 117, 3) := by decide +kernel
theorem dX13_counted_13 : decode cX13_counted 13 = .ok (.if_icmp .ge 26, 3) := by decide +kernel
theorem dX13_counted_16 : decode cX13_counted 16 = .ok (.iload_n 2, 1) := by decide +kernel
theorem dX13_counted_17 : decode cX13_counted 17 = .ok (.aload_n 0, 1) := by decide +kernel
theorem dX13_counted_18 : decode cX13_counted 18 = .ok (.iload 4, 2) := by decide +kernel
theorem dX13_counted_20 : decode cX13_counted 20 = .ok (.invokevirtual 221, 3) := by decide +kernel
theorem dX13_counted_23 : decode cX13_counted 23 = .ok (.ifCond .eq 7, 3) := by decide +kernel
theorem dX13_counted_26 : decode cX13_counted 26 = .ok (.iconst 1, 1) := by decide +kernel
theorem dX13_counted_27 : decode cX13_counted 27 = .ok (.goto 4, 3) := by decide +kernel
theorem dX13_counted_30 : decode cX13_counted 30 = .ok (.iconst 0, 1) := by decide +kernel
theorem dX13_counted_31 : decode cX13_counted 31 = .ok (.iadd, 1) := by decide +kernel
theorem dX13_counted_32 : decode cX13_counted 32 = .ok (.istore_n 2, 1) := by decide +kernel
theorem dX13_counted_33 : decode cX13_counted 33 = .ok (.iinc 4 1, 3) := by decide +kernel
theorem dX13_counted_36 : decode cX13_counted 36 = .ok (.goto (-29), 3) := by decide +kernel
theorem dX13_counted_39 : decode cX13_counted 39 = .ok (.iconst 0, 1) := by decide +kernel
theorem dX13_counted_40 : decode cX13_counted 40 = .ok (.istore 4, 2) := by decide +kernel
theorem dX13_counted_42 : decode cX13_counted 42 = .ok (.iload 4, 2) := by decide +kernel
theorem dX13_counted_44 : decode cX13_counted 44 = .ok (.aload_n 0, 1) := by decide +kernel
theorem dX13_counted_45 : decode cX13_counted 45 = .ok (.getfield 114, 3) := by decide +kernel
theorem dX13_counted_48 : decode cX13_counted 48 = .ok (.if_icmp .ge 18, 3) := by decide +kernel
theorem dX13_counted_51 : decode cX13_counted 51 = .ok (.iload_n 3, 1) := by decide +kernel
theorem dX13_counted_52 : decode cX13_counted 52 = .ok (.aload_n 0, 1) := by decide +kernel
theorem dX13_counted_53 : decode cX13_counted 53 = .ok (.iload 4, 2) := by decide +kernel
theorem dX13_counted_55 : decode cX13_counted 55 = .ok (.invokevirtual 210, 3) := by decide +kernel
theorem dX13_counted_58 : decode cX13_counted 58 = .ok (.iadd, 1) := by decide +kernel
theorem dX13_counted_59 : decode cX13_counted 59 = .ok (.istore_n 3, 1) := by decide +kernel
theorem dX13_counted_60 : decode cX13_counted 60 = .ok (.iinc 4 1, 3) := by decide +kernel
theorem dX13_counted_63 : decode cX13_counted 63 = .ok (.goto (-21), 3) := by decide +kernel
theorem dX13_counted_66 : decode cX13_counted 66 = .ok (.bipush 12, 2) := by decide +kernel
theorem dX13_counted_68 : decode cX13_counted 68 = .ok (.newarray .int, 2) := by decide +kernel
theorem dX13_counted_70 : decode cX13_counted 70 = .ok (.dup, 1) := by decide +kernel
theorem dX13_counted_71 : decode cX13_counted 71 = .ok (.iconst 0, 1) := by decide +kernel
theorem dX13_counted_72 : decode cX13_counted 72 = .ok (.aload_n 0, 1) := by decide +kernel
theorem dX13_counted_73 : decode cX13_counted 73 = .ok (.getfield 70, 3) := by decide +kernel
theorem dX13_counted_76 : decode cX13_counted 76 = .ok (.getfield 252, 3) := by decide +kernel
theorem dX13_counted_79 : decode cX13_counted 79 = .ok (.iastore, 1) := by decide +kernel
theorem dX13_counted_80 : decode cX13_counted 80 = .ok (.dup, 1) := by decide +kernel
theorem dX13_counted_81 : decode cX13_counted 81 = .ok (.iconst 1, 1) := by decide +kernel
theorem dX13_counted_82 : decode cX13_counted 82 = .ok (.aload_n 0, 1) := by decide +kernel
theorem dX13_counted_83 : decode cX13_counted 83 = .ok (.getfield 108, 3) := by decide +kernel
theorem dX13_counted_86 : decode cX13_counted 86 = .ok (.iastore, 1) := by decide +kernel
theorem dX13_counted_87 : decode cX13_counted 87 = .ok (.dup, 1) := by decide +kernel
theorem dX13_counted_88 : decode cX13_counted 88 = .ok (.iconst 2, 1) := by decide +kernel
theorem dX13_counted_89 : decode cX13_counted 89 = .ok (.aload_n 0, 1) := by decide +kernel
theorem dX13_counted_90 : decode cX13_counted 90 = .ok (.getfield 111, 3) := by decide +kernel
theorem dX13_counted_93 : decode cX13_counted 93 = .ok (.iastore, 1) := by decide +kernel
theorem dX13_counted_94 : decode cX13_counted 94 = .ok (.dup, 1) := by decide +kernel
theorem dX13_counted_95 : decode cX13_counted 95 = .ok (.iconst 3, 1) := by decide +kernel
theorem dX13_counted_96 : decode cX13_counted 96 = .ok (.aload_n 0, 1) := by decide +kernel
theorem dX13_counted_97 : decode cX13_counted 97 = .ok (.getfield 114, 3) := by decide +kernel
theorem dX13_counted_100 : decode cX13_counted 100 = .ok (.iastore, 1) := by decide +kernel
theorem dX13_counted_101 : decode cX13_counted 101 = .ok (.dup, 1) := by decide +kernel
theorem dX13_counted_102 : decode cX13_counted 102 = .ok (.iconst 4, 1) := by decide +kernel
theorem dX13_counted_103 : decode cX13_counted 103 = .ok (.aload_n 0, 1) := by decide +kernel
theorem dX13_counted_104 : decode cX13_counted 104 = .ok (.getfield 117, 3) := by decide +kernel
theorem dX13_counted_107 : decode cX13_counted 107 = .ok (.iastore, 1) := by decide +kernel
theorem dX13_counted_108 : decode cX13_counted 108 = .ok (.dup, 1) := by decide +kernel
theorem dX13_counted_109 : decode cX13_counted 109 = .ok (.iconst 5, 1) := by decide +kernel
theorem dX13_counted_110 : decode cX13_counted 110 = .ok (.aload_n 0, 1) := by decide +kernel
theorem dX13_counted_111 : decode cX13_counted 111 = .ok (.getfield 70, 3) := by decide +kernel
theorem dX13_counted_114 : decode cX13_counted 114 = .ok (.iconst 0, 1) := by decide +kernel
theorem dX13_counted_115 : decode cX13_counted 115 = .ok (.invokevirtual 255, 3) := by decide +kernel
theorem dX13_counted_118 : decode cX13_counted 118 = .ok (.iastore, 1) := by decide +kernel
theorem dX13_counted_119 : decode cX13_counted 119 = .ok (.dup, 1) := by decide +kernel
theorem dX13_counted_120 : decode cX13_counted 120 = .ok (.bipush 6, 2) := by decide +kernel
theorem dX13_counted_122 : decode cX13_counted 122 = .ok (.iload_n 2, 1) := by decide +kernel
theorem dX13_counted_123 : decode cX13_counted 123 = .ok (.iastore, 1) := by decide +kernel
theorem dX13_counted_124 : decode cX13_counted 124 = .ok (.dup, 1) := by decide +kernel
theorem dX13_counted_125 : decode cX13_counted 125 = .ok (.bipush 7, 2) := by decide +kernel
theorem dX13_counted_127 : decode cX13_counted 127 = .ok (.aload_n 0, 1) := by decide +kernel
theorem dX13_counted_128 : decode cX13_counted 128 = .ok (.getfield 70, 3) := by decide +kernel
theorem dX13_counted_131 : decode cX13_counted 131 = .ok (.iconst 1, 1) := by decide +kernel
theorem dX13_counted_132 : decode cX13_counted 132 = .ok (.invokevirtual 255, 3) := by decide +kernel
theorem dX13_counted_135 : decode cX13_counted 135 = .ok (.iastore, 1) := by decide +kernel
theorem dX13_counted_136 : decode cX13_counted 136 = .ok (.dup, 1) := by decide +kernel
theorem dX13_counted_137 : decode cX13_counted 137 = .ok (.bipush 8, 2) := by decide +kernel
theorem dX13_counted_139 : decode cX13_counted 139 = .ok (.aload_n 0, 1) := by decide +kernel
theorem dX13_counted_140 : decode cX13_counted 140 = .ok (.getfield 70, 3) := by decide +kernel
theorem dX13_counted_143 : decode cX13_counted 143 = .ok (.iconst 2, 1) := by decide +kernel
theorem dX13_counted_144 : decode cX13_counted 144 = .ok (.invokevirtual 255, 3) := by decide +kernel
theorem dX13_counted_147 : decode cX13_counted 147 = .ok (.iastore, 1) := by decide +kernel
theorem dX13_counted_148 : decode cX13_counted 148 = .ok (.dup, 1) := by decide +kernel
theorem dX13_counted_149 : decode cX13_counted 149 = .ok (.bipush 9, 2) := by decide +kernel
theorem dX13_counted_151 : decode cX13_counted 151 = .ok (.aload_n 0, 1) := by decide +kernel
theorem dX13_counted_152 : decode cX13_counted 152 = .ok (.getfield 70, 3) := by decide +kernel
theorem dX13_counted_155 : decode cX13_counted 155 = .ok (.iconst 3, 1) := by decide +kernel
theorem dX13_counted_156 : decode cX13_counted 156 = .ok (.invokevirtual 255, 3) := by decide +kernel
theorem dX13_counted_159 : decode cX13_counted 159 = .ok (.iastore, 1) := by decide +kernel
theorem dX13_counted_160 : decode cX13_counted 160 = .ok (.dup, 1) := by decide +kernel
theorem dX13_counted_161 : decode cX13_counted 161 = .ok (.bipush 10, 2) := by decide +kernel
theorem dX13_counted_163 : decode cX13_counted 163 = .ok (.aload_n 0, 1) := by decide +kernel
theorem dX13_counted_164 : decode cX13_counted 164 = .ok (.getfield 70, 3) := by decide +kernel
theorem dX13_counted_167 : decode cX13_counted 167 = .ok (.iconst 4, 1) := by decide +kernel
theorem dX13_counted_168 : decode cX13_counted 168 = .ok (.invokevirtual 255, 3) := by decide +kernel
theorem dX13_counted_171 : decode cX13_counted 171 = .ok (.iastore, 1) := by decide +kernel
theorem dX13_counted_172 : decode cX13_counted 172 = .ok (.dup, 1) := by decide +kernel
theorem dX13_counted_173 : decode cX13_counted 173 = .ok (.bipush 11, 2) := by decide +kernel
theorem dX13_counted_175 : decode cX13_counted 175 = .ok (.iload_n 3, 1) := by decide +kernel
theorem dX13_counted_176 : decode cX13_counted 176 = .ok (.iastore, 1) := by decide +kernel
theorem dX13_counted_177 : decode cX13_counted 177 = .ok (.astore 4, 2) := by decide +kernel
theorem dX13_counted_179 : decode cX13_counted 179 = .ok (.aload 4, 2) := by decide +kernel
theorem dX13_counted_181 : decode cX13_counted 181 = .ok (.iload_n 1, 1) := by decide +kernel
theorem dX13_counted_182 : decode cX13_counted 182 = .ok (.iaload, 1) := by decide +kernel
theorem dX13_counted_183 : decode cX13_counted 183 = .ok (.ireturn, 1) := by decide +kernel
theorem dX13_count_0 : decode cX13_count 0 = .ok (.aload_n 0, 1) := by decide +kernel
theorem dX13_count_1 : decode cX13_count 1 = .ok (.iconst 0, 1) := by decide +kernel
theorem dX13_count_2 : decode cX13_count 2 = .ok (.putfield 95, 3) := by decide +kernel
theorem dX13_count_5 : decode cX13_count 5 = .ok (.iload_n 1, 1) := by decide +kernel
theorem dX13_count_6 : decode cX13_count 6 = .ok (.iconst 0, 1) := by decide +kernel
theorem dX13_count_7 : decode cX13_count 7 = .ok (.bipush 11, 2) := by decide +kernel
theorem dX13_count_9 : decode cX13_count 9 = .ok (.invokestatic 98, 3) := by decide +kernel
theorem dX13_count_12 : decode cX13_count 12 = .ok (.ifCond .eq 11, 3) := by decide +kernel
theorem dX13_count_15 : decode cX13_count 15 = .ok (.aload_n 0, 1) := by decide +kernel
theorem dX13_count_16 : decode cX13_count 16 = .ok (.iload_n 1, 1) := by decide +kernel
theorem dX13_count_17 : decode cX13_count 17 = .ok (.invokevirtual 257, 3) := by decide +kernel
theorem dX13_count_20 : decode cX13_count 20 = .ok (.goto 8, 3) := by decide +kernel
theorem dX13_count_23 : decode cX13_count 23 = .ok (.aload_n 0, 1) := by decide +kernel
theorem dX13_count_24 : decode cX13_count 24 = .ok (.iconst 1, 1) := by decide +kernel
theorem dX13_count_25 : decode cX13_count 25 = .ok (.invokevirtual 120, 3) := by decide +kernel
theorem dX13_count_28 : decode cX13_count 28 = .ok (.ireturn, 1) := by decide +kernel
theorem dX13_drive_0 : decode cX13_drive 0 = .ok (.aload_n 0, 1) := by decide +kernel
theorem dX13_drive_1 : decode cX13_drive 1 = .ok (.iconst 0, 1) := by decide +kernel
theorem dX13_drive_2 : decode cX13_drive 2 = .ok (.putfield 95, 3) := by decide +kernel
theorem dX13_drive_5 : decode cX13_drive 5 = .ok (.aload_n 0, 1) := by decide +kernel
theorem dX13_drive_6 : decode cX13_drive 6 = .ok (.getfield 70, 3) := by decide +kernel
theorem dX13_drive_9 : decode cX13_drive 9 = .ok (.invokevirtual 260, 3) := by decide +kernel
theorem dX13_drive_12 : decode cX13_drive 12 = .ok (.ireturn, 1) := by decide +kernel
theorem dX13_foresee_0 : decode cX13_foresee 0 = .ok (.aload_n 0, 1) := by decide +kernel
theorem dX13_foresee_1 : decode cX13_foresee 1 = .ok (.iconst 0, 1) := by decide +kernel
theorem dX13_foresee_2 : decode cX13_foresee 2 = .ok (.putfield 95, 3) := by decide +kernel
theorem dX13_foresee_5 : decode cX13_foresee 5 = .ok (.iload_n 1, 1) := by decide +kernel
theorem dX13_foresee_6 : decode cX13_foresee 6 = .ok (.iconst 0, 1) := by decide +kernel
theorem dX13_foresee_7 : decode cX13_foresee 7 = .ok (.iconst 2, 1) := by decide +kernel
theorem dX13_foresee_8 : decode cX13_foresee 8 = .ok (.invokestatic 98, 3) := by decide +kernel
theorem dX13_foresee_11 : decode cX13_foresee 11 = .ok (.ifCond .ne 9, 3) := by decide +kernel
theorem dX13_foresee_14 : decode cX13_foresee 14 = .ok (.aload_n 0, 1) := by decide +kernel
theorem dX13_foresee_15 : decode cX13_foresee 15 = .ok (.iconst 1, 1) := by decide +kernel
theorem dX13_foresee_16 : decode cX13_foresee 16 = .ok (.invokevirtual 120, 3) := by decide +kernel
theorem dX13_foresee_19 : decode cX13_foresee 19 = .ok (.ireturn, 1) := by decide +kernel
theorem dX13_foresee_20 : decode cX13_foresee 20 = .ok (.aload_n 0, 1) := by decide +kernel
theorem dX13_foresee_21 : decode cX13_foresee 21 = .ok (.getfield 74, 3) := by decide +kernel
theorem dX13_foresee_24 : decode cX13_foresee 24 = .ok (.aload_n 0, 1) := by decide +kernel
theorem dX13_foresee_25 : decode cX13_foresee 25 = .ok (.getfield 70, 3) := by decide +kernel
theorem dX13_foresee_28 : decode cX13_foresee 28 = .ok (.invokevirtual 264, 3) := by decide +kernel
theorem dX13_foresee_31 : decode cX13_foresee 31 = .ok (.aload_n 0, 1) := by decide +kernel
theorem dX13_foresee_32 : decode cX13_foresee 32 = .ok (.getfield 74, 3) := by decide +kernel
theorem dX13_foresee_35 : decode cX13_foresee 35 = .ok (.invokevirtual 260, 3) := by decide +kernel
theorem dX13_foresee_38 : decode cX13_foresee 38 = .ok (.istore_n 2, 1) := by decide +kernel
theorem dX13_foresee_39 : decode cX13_foresee 39 = .ok (.iload_n 1, 1) := by decide +kernel
theorem dX13_foresee_40 : decode cX13_foresee 40 = .ok (.ifCond .ne 7, 3) := by decide +kernel
theorem dX13_foresee_43 : decode cX13_foresee 43 = .ok (.iload_n 2, 1) := by decide +kernel
theorem dX13_foresee_44 : decode cX13_foresee 44 = .ok (.goto 35, 3) := by decide +kernel
theorem dX13_foresee_47 : decode cX13_foresee 47 = .ok (.iload_n 1, 1) := by decide +kernel
theorem dX13_foresee_48 : decode cX13_foresee 48 = .ok (.iconst 1, 1) := by decide +kernel
theorem dX13_foresee_49 : decode cX13_foresee 49 = .ok (.if_icmp .ne 23, 3) := by decide +kernel
theorem dX13_foresee_52 : decode cX13_foresee 52 = .ok (.aload_n 0, 1) := by decide +kernel
theorem dX13_foresee_53 : decode cX13_foresee 53 = .ok (.getfield 74, 3) := by decide +kernel
theorem dX13_foresee_56 : decode cX13_foresee 56 = .ok (.iconst 4, 1) := by decide +kernel
theorem dX13_foresee_57 : decode cX13_foresee 57 = .ok (.invokevirtual 255, 3) := by decide +kernel
theorem dX13_foresee_60 : decode cX13_foresee 60 = .ok (.aload_n 0, 1) := by decide +kernel
theorem dX13_foresee_61 : decode cX13_foresee 61 = .ok (.getfield 70, 3) := by decide +kernel
theorem dX13_foresee_64 : decode cX13_foresee 64 = .ok (.iconst 4, 1) := by decide +kernel
theorem dX13_foresee_65 : decode cX13_foresee 65 = .ok (.invokevirtual 255, 3) := by decide +kernel
theorem dX13_foresee_68 : decode cX13_foresee 68 = .ok (.isub, 1) := by decide +kernel
theorem dX13_foresee_69 : decode cX13_foresee 69 = .ok (.goto 10, 3) := by decide +kernel
theorem dX13_foresee_72 : decode cX13_foresee 72 = .ok (.aload_n 0, 1) := by decide +kernel
theorem dX13_foresee_73 : decode cX13_foresee 73 = .ok (.getfield 74, 3) := by decide +kernel
theorem dX13_foresee_76 : decode cX13_foresee 76 = .ok (.getfield 268, 3) := by decide +kernel
theorem dX13_foresee_79 : decode cX13_foresee 79 = .ok (.ireturn, 1) := by decide +kernel
theorem dX13_hour_0 : decode cX13_hour 0 = .ok (.aload_n 0, 1) := by decide +kernel
theorem dX13_hour_1 : decode cX13_hour 1 = .ok (.iconst 0, 1) := by decide +kernel
theorem dX13_hour_2 : decode cX13_hour 2 = .ok (.putfield 95, 3) := by decide +kernel
theorem dX13_hour_5 : decode cX13_hour 5 = .ok (.aload_n 0, 1) := by decide +kernel
theorem dX13_hour_6 : decode cX13_hour 6 = .ok (.iload_n 1, 1) := by decide +kernel
theorem dX13_hour_7 : decode cX13_hour 7 = .ok (.invokevirtual 128, 3) := by decide +kernel
theorem dX13_hour_10 : decode cX13_hour 10 = .ok (.ifCond .ne 9, 3) := by decide +kernel
theorem dX13_hour_13 : decode cX13_hour 13 = .ok (.aload_n 0, 1) := by decide +kernel
theorem dX13_hour_14 : decode cX13_hour 14 = .ok (.iconst 1, 1) := by decide +kernel
theorem dX13_hour_15 : decode cX13_hour 15 = .ok (.invokevirtual 120, 3) := by decide +kernel
theorem dX13_hour_18 : decode cX13_hour 18 = .ok (.ireturn, 1) := by decide +kernel
theorem dX13_hour_19 : decode cX13_hour 19 = .ok (.iconst (-1), 1) := by decide +kernel
theorem dX13_hour_20 : decode cX13_hour 20 = .ok (.istore_n 2, 1) := by decide +kernel
theorem dX13_hour_21 : decode cX13_hour 21 = .ok (.iconst 0, 1) := by decide +kernel
theorem dX13_hour_22 : decode cX13_hour 22 = .ok (.istore_n 3, 1) := by decide +kernel
theorem dX13_hour_23 : decode cX13_hour 23 = .ok (.iconst 0, 1) := by decide +kernel
theorem dX13_hour_24 : decode cX13_hour 24 = .ok (.istore 4, 2) := by decide +kernel
theorem dX13_hour_26 : decode cX13_hour 26 = .ok (.iload 4, 2) := by decide +kernel
theorem dX13_hour_28 : decode cX13_hour 28 = .ok (.bipush 24, 2) := by decide +kernel
theorem dX13_hour_30 : decode cX13_hour 30 = .ok (.if_icmp .ge 61, 3) := by decide +kernel
theorem dX13_hour_33 : decode cX13_hour 33 = .ok (.iconst 0, 1) := by decide +kernel
theorem dX13_hour_34 : decode cX13_hour 34 = .ok (.istore 5, 2) := by decide +kernel
theorem dX13_hour_36 : decode cX13_hour 36 = .ok (.iload 4, 2) := by decide +kernel
theorem dX13_hour_38 : decode cX13_hour 38 = .ok (.iload 5, 2) := by decide +kernel
theorem dX13_hour_40 : decode cX13_hour 40 = .ok (.iadd, 1) := by decide +kernel
theorem dX13_hour_41 : decode cX13_hour 41 = .ok (.bipush 24, 2) := by decide +kernel
theorem dX13_hour_43 : decode cX13_hour 43 = .ok (.if_icmp .ge 27, 3) := by decide +kernel
theorem dX13_hour_46 : decode cX13_hour 46 = .ok (.aload_n 0, 1) := by decide +kernel
theorem dX13_hour_47 : decode cX13_hour 47 = .ok (.getfield 26, 3) := by decide +kernel
theorem dX13_hour_50 : decode cX13_hour 50 = .ok (.iload_n 1, 1) := by decide +kernel
theorem dX13_hour_51 : decode cX13_hour 51 = .ok (.iaload, 1) := by decide +kernel
theorem dX13_hour_52 : decode cX13_hour 52 = .ok (.iload 4, 2) := by decide +kernel
theorem dX13_hour_54 : decode cX13_hour 54 = .ok (.iload 5, 2) := by decide +kernel
theorem dX13_hour_56 : decode cX13_hour 56 = .ok (.iadd, 1) := by decide +kernel
theorem dX13_hour_57 : decode cX13_hour 57 = .ok (.ishr, 1) := by decide +kernel
theorem dX13_hour_58 : decode cX13_hour 58 = .ok (.iconst 1, 1) := by decide +kernel
theorem dX13_hour_59 : decode cX13_hour 59 = .ok (.iand, 1) := by decide +kernel
theorem dX13_hour_60 : decode cX13_hour 60 = .ok (.iconst 1, 1) := by decide +kernel
theorem dX13_hour_61 : decode cX13_hour 61 = .ok (.if_icmp .ne 9, 3) := by decide +kernel
theorem dX13_hour_64 : decode cX13_hour 64 = .ok (.iinc 5 1, 3) := by decide +kernel
theorem dX13_hour_67 : decode cX13_hour 67 = .ok (.goto (-31), 3) := by decide +kernel
theorem dX13_hour_70 : decode cX13_hour 70 = .ok (.iload 5, 2) := by decide +kernel
theorem dX13_hour_72 : decode cX13_hour 72 = .ok (.iload_n 3, 1) := by decide +kernel
theorem dX13_hour_73 : decode cX13_hour 73 = .ok (.if_icmp .gt 6, 3) := by decide +kernel
theorem dX13_hour_76 : decode cX13_hour 76 = .ok (.goto 9, 3) := by decide +kernel
theorem dX13_hour_79 : decode cX13_hour 79 = .ok (.iload 5, 2) := by decide +kernel
theorem dX13_hour_81 : decode cX13_hour 81 = .ok (.istore_n 3, 1) := by decide +kernel
theorem dX13_hour_82 : decode cX13_hour 82 = .ok (.iload 4, 2) := by decide +kernel
theorem dX13_hour_84 : decode cX13_hour 84 = .ok (.istore_n 2, 1) := by decide +kernel
theorem dX13_hour_85 : decode cX13_hour 85 = .ok (.iinc 4 1, 3) := by decide +kernel
theorem dX13_hour_88 : decode cX13_hour 88 = .ok (.goto (-62), 3) := by decide +kernel
theorem dX13_hour_91 : decode cX13_hour 91 = .ok (.iload_n 2, 1) := by decide +kernel
theorem dX13_hour_92 : decode cX13_hour 92 = .ok (.ireturn, 1) := by decide +kernel
theorem dX13_digest_0 : decode cX13_digest 0 = .ok (.aload_n 0, 1) := by decide +kernel
theorem dX13_digest_1 : decode cX13_digest 1 = .ok (.iconst 0, 1) := by decide +kernel
theorem dX13_digest_2 : decode cX13_digest 2 = .ok (.putfield 95, 3) := by decide +kernel
theorem dX13_digest_5 : decode cX13_digest 5 = .ok (.ldc2_w 271, 3) := by decide +kernel
theorem dX13_digest_8 : decode cX13_digest 8 = .ok (.lstore_n 1, 1) := by decide +kernel
theorem dX13_digest_9 : decode cX13_digest 9 = .ok (.iconst 0, 1) := by decide +kernel
theorem dX13_digest_10 : decode cX13_digest 10 = .ok (.istore_n 3, 1) := by decide +kernel
theorem dX13_digest_11 : decode cX13_digest 11 = .ok (.iload_n 3, 1) := by decide +kernel
theorem dX13_digest_12 : decode cX13_digest 12 = .ok (.bipush 11, 2) := by decide +kernel
theorem dX13_digest_14 : decode cX13_digest 14 = .ok (.if_icmp .gt 22, 3) := by decide +kernel
theorem dX13_digest_17 : decode cX13_digest 17 = .ok (.lload_n 1, 1) := by decide +kernel
theorem dX13_digest_18 : decode cX13_digest 18 = .ok (.ldc2_w 273, 3) := by decide +kernel
theorem dX13_digest_21 : decode cX13_digest 21 = .ok (.lmul, 1) := by decide +kernel
theorem dX13_digest_22 : decode cX13_digest 22 = .ok (.aload_n 0, 1) := by decide +kernel
theorem dX13_digest_23 : decode cX13_digest 23 = .ok (.iload_n 3, 1) := by decide +kernel
theorem dX13_digest_24 : decode cX13_digest 24 = .ok (.invokevirtual 257, 3) := by decide +kernel
theorem dX13_digest_27 : decode cX13_digest 27 = .ok (.i2l, 1) := by decide +kernel
theorem dX13_digest_28 : decode cX13_digest 28 = .ok (.ladd, 1) := by decide +kernel
theorem dX13_digest_29 : decode cX13_digest 29 = .ok (.lstore_n 1, 1) := by decide +kernel
theorem dX13_digest_30 : decode cX13_digest 30 = .ok (.iinc 3 1, 3) := by decide +kernel
theorem dX13_digest_33 : decode cX13_digest 33 = .ok (.goto (-22), 3) := by decide +kernel
theorem dX13_digest_36 : decode cX13_digest 36 = .ok (.iconst 0, 1) := by decide +kernel
theorem dX13_digest_37 : decode cX13_digest 37 = .ok (.istore_n 3, 1) := by decide +kernel
theorem dX13_digest_38 : decode cX13_digest 38 = .ok (.iload_n 3, 1) := by decide +kernel
theorem dX13_digest_39 : decode cX13_digest 39 = .ok (.bipush 24, 2) := by decide +kernel
theorem dX13_digest_41 : decode cX13_digest 41 = .ok (.if_icmp .ge 23, 3) := by decide +kernel
theorem dX13_digest_44 : decode cX13_digest 44 = .ok (.lload_n 1, 1) := by decide +kernel
theorem dX13_digest_45 : decode cX13_digest 45 = .ok (.ldc2_w 273, 3) := by decide +kernel
theorem dX13_digest_48 : decode cX13_digest 48 = .ok (.lmul, 1) := by decide +kernel
theorem dX13_digest_49 : decode cX13_digest 49 = .ok (.aload_n 0, 1) := by decide +kernel
theorem dX13_digest_50 : decode cX13_digest 50 = .ok (.getfield 7, 3) := by decide +kernel
theorem dX13_digest_53 : decode cX13_digest 53 = .ok (.iload_n 3, 1) := by decide +kernel
theorem dX13_digest_54 : decode cX13_digest 54 = .ok (.iaload, 1) := by decide +kernel
theorem dX13_digest_55 : decode cX13_digest 55 = .ok (.i2l, 1) := by decide +kernel
theorem dX13_digest_56 : decode cX13_digest 56 = .ok (.ladd, 1) := by decide +kernel
theorem dX13_digest_57 : decode cX13_digest 57 = .ok (.lstore_n 1, 1) := by decide +kernel
theorem dX13_digest_58 : decode cX13_digest 58 = .ok (.iinc 3 1, 3) := by decide +kernel
theorem dX13_digest_61 : decode cX13_digest 61 = .ok (.goto (-23), 3) := by decide +kernel
theorem dX13_digest_64 : decode cX13_digest 64 = .ok (.lload_n 1, 1) := by decide +kernel
theorem dX13_digest_65 : decode cX13_digest 65 = .ok (.ldc2_w 273, 3) := by decide +kernel
theorem dX13_digest_68 : decode cX13_digest 68 = .ok (.lmul, 1) := by decide +kernel
theorem dX13_digest_69 : decode cX13_digest 69 = .ok (.aload_n 0, 1) := by decide +kernel
theorem dX13_digest_70 : decode cX13_digest 70 = .ok (.getfield 13, 3) := by decide +kernel
theorem dX13_digest_73 : decode cX13_digest 73 = .ok (.i2l, 1) := by decide +kernel
theorem dX13_digest_74 : decode cX13_digest 74 = .ok (.ladd, 1) := by decide +kernel
theorem dX13_digest_75 : decode cX13_digest 75 = .ok (.ldc2_w 273, 3) := by decide +kernel
theorem dX13_digest_78 : decode cX13_digest 78 = .ok (.lmul, 1) := by decide +kernel
theorem dX13_digest_79 : decode cX13_digest 79 = .ok (.aload_n 0, 1) := by decide +kernel
theorem dX13_digest_80 : decode cX13_digest 80 = .ok (.getfield 17, 3) := by decide +kernel
theorem dX13_digest_83 : decode cX13_digest 83 = .ok (.i2l, 1) := by decide +kernel
theorem dX13_digest_84 : decode cX13_digest 84 = .ok (.ladd, 1) := by decide +kernel
theorem dX13_digest_85 : decode cX13_digest 85 = .ok (.lstore_n 1, 1) := by decide +kernel
theorem dX13_digest_86 : decode cX13_digest 86 = .ok (.iconst 0, 1) := by decide +kernel
theorem dX13_digest_87 : decode cX13_digest 87 = .ok (.istore_n 3, 1) := by decide +kernel
theorem dX13_digest_88 : decode cX13_digest 88 = .ok (.iload_n 3, 1) := by decide +kernel
theorem dX13_digest_89 : decode cX13_digest 89 = .ok (.aload_n 0, 1) := by decide +kernel
theorem dX13_digest_90 : decode cX13_digest 90 = .ok (.getfield 108, 3) := by decide +kernel
theorem dX13_digest_93 : decode cX13_digest 93 = .ok (.if_icmp .ge 78, 3) := by decide +kernel
theorem dX13_digest_96 : decode cX13_digest 96 = .ok (.iconst 0, 1) := by decide +kernel
theorem dX13_digest_97 : decode cX13_digest 97 = .ok (.istore 4, 2) := by decide +kernel
theorem dX13_digest_99 : decode cX13_digest 99 = .ok (.iload 4, 2) := by decide +kernel
theorem dX13_digest_101 : decode cX13_digest 101 = .ok (.iconst 5, 1) := by decide +kernel
theorem dX13_digest_102 : decode cX13_digest 102 = .ok (.if_icmp .gt 24, 3) := by decide +kernel
theorem dX13_digest_105 : decode cX13_digest 105 = .ok (.lload_n 1, 1) := by decide +kernel
theorem dX13_digest_106 : decode cX13_digest 106 = .ok (.ldc2_w 273, 3) := by decide +kernel
theorem dX13_digest_109 : decode cX13_digest 109 = .ok (.lmul, 1) := by decide +kernel
theorem dX13_digest_110 : decode cX13_digest 110 = .ok (.aload_n 0, 1) := by decide +kernel
theorem dX13_digest_111 : decode cX13_digest 111 = .ok (.iload_n 3, 1) := by decide +kernel
theorem dX13_digest_112 : decode cX13_digest 112 = .ok (.iload 4, 2) := by decide +kernel
theorem dX13_digest_114 : decode cX13_digest 114 = .ok (.invokevirtual 150, 3) := by decide +kernel
theorem dX13_digest_117 : decode cX13_digest 117 = .ok (.i2l, 1) := by decide +kernel
theorem dX13_digest_118 : decode cX13_digest 118 = .ok (.ladd, 1) := by decide +kernel
theorem dX13_digest_119 : decode cX13_digest 119 = .ok (.lstore_n 1, 1) := by decide +kernel
theorem dX13_digest_120 : decode cX13_digest 120 = .ok (.iinc 4 1, 3) := by decide +kernel
theorem dX13_digest_123 : decode cX13_digest 123 = .ok (.goto (-24), 3) := by decide +kernel
theorem dX13_digest_126 : decode cX13_digest 126 = .ok (.iconst 0, 1) := by decide +kernel
theorem dX13_digest_127 : decode cX13_digest 127 = .ok (.istore 4, 2) := by decide +kernel
theorem dX13_digest_129 : decode cX13_digest 129 = .ok (.iload 4, 2) := by decide +kernel
theorem dX13_digest_131 : decode cX13_digest 131 = .ok (.aload_n 0, 1) := by decide +kernel
theorem dX13_digest_132 : decode cX13_digest 132 = .ok (.getfield 29, 3) := by decide +kernel
theorem dX13_digest_135 : decode cX13_digest 135 = .ok (.iload_n 3, 1) := by decide +kernel
theorem dX13_digest_136 : decode cX13_digest 136 = .ok (.iaload, 1) := by decide +kernel
theorem dX13_digest_137 : decode cX13_digest 137 = .ok (.if_icmp .ge 28, 3) := by decide +kernel
theorem dX13_digest_140 : decode cX13_digest 140 = .ok (.lload_n 1, 1) := by decide +kernel
theorem dX13_digest_141 : decode cX13_digest 141 = .ok (.ldc2_w 273, 3) := by decide +kernel
theorem dX13_digest_144 : decode cX13_digest 144 = .ok (.lmul, 1) := by decide +kernel
theorem dX13_digest_145 : decode cX13_digest 145 = .ok (.aload_n 0, 1) := by decide +kernel
theorem dX13_digest_146 : decode cX13_digest 146 = .ok (.getfield 32, 3) := by decide +kernel
theorem dX13_digest_149 : decode cX13_digest 149 = .ok (.iconst 3, 1) := by decide +kernel
theorem dX13_digest_150 : decode cX13_digest 150 = .ok (.iload_n 3, 1) := by decide +kernel
theorem dX13_digest_151 : decode cX13_digest 151 = .ok (.imul, 1) := by decide +kernel
theorem dX13_digest_152 : decode cX13_digest 152 = .ok (.iload 4, 2) := by decide +kernel
theorem dX13_digest_154 : decode cX13_digest 154 = .ok (.iadd, 1) := by decide +kernel
theorem dX13_digest_155 : decode cX13_digest 155 = .ok (.iaload, 1) := by decide +kernel
theorem dX13_digest_156 : decode cX13_digest 156 = .ok (.i2l, 1) := by decide +kernel
theorem dX13_digest_157 : decode cX13_digest 157 = .ok (.ladd, 1) := by decide +kernel
theorem dX13_digest_158 : decode cX13_digest 158 = .ok (.lstore_n 1, 1) := by decide +kernel
theorem dX13_digest_159 : decode cX13_digest 159 = .ok (.iinc 4 1, 3) := by decide +kernel
theorem dX13_digest_162 : decode cX13_digest 162 = .ok (.goto (-33), 3) := by decide +kernel
theorem dX13_digest_165 : decode cX13_digest 165 = .ok (.iinc 3 1, 3) := by decide +kernel
theorem dX13_digest_168 : decode cX13_digest 168 = .ok (.goto (-80), 3) := by decide +kernel
theorem dX13_digest_171 : decode cX13_digest 171 = .ok (.iconst 0, 1) := by decide +kernel
theorem dX13_digest_172 : decode cX13_digest 172 = .ok (.istore_n 3, 1) := by decide +kernel
theorem dX13_digest_173 : decode cX13_digest 173 = .ok (.iload_n 3, 1) := by decide +kernel
theorem dX13_digest_174 : decode cX13_digest 174 = .ok (.aload_n 0, 1) := by decide +kernel
theorem dX13_digest_175 : decode cX13_digest 175 = .ok (.getfield 111, 3) := by decide +kernel
theorem dX13_digest_178 : decode cX13_digest 178 = .ok (.if_icmp .ge 39, 3) := by decide +kernel
theorem dX13_digest_181 : decode cX13_digest 181 = .ok (.iconst 0, 1) := by decide +kernel
theorem dX13_digest_182 : decode cX13_digest 182 = .ok (.istore 4, 2) := by decide +kernel
theorem dX13_digest_184 : decode cX13_digest 184 = .ok (.iload 4, 2) := by decide +kernel
theorem dX13_digest_186 : decode cX13_digest 186 = .ok (.iconst 5, 1) := by decide +kernel
theorem dX13_digest_187 : decode cX13_digest 187 = .ok (.if_icmp .gt 24, 3) := by decide +kernel
theorem dX13_digest_190 : decode cX13_digest 190 = .ok (.lload_n 1, 1) := by decide +kernel
theorem dX13_digest_191 : decode cX13_digest 191 = .ok (.ldc2_w 273, 3) := by decide +kernel
theorem dX13_digest_194 : decode cX13_digest 194 = .ok (.lmul, 1) := by decide +kernel
theorem dX13_digest_195 : decode cX13_digest 195 = .ok (.aload_n 0, 1) := by decide +kernel
theorem dX13_digest_196 : decode cX13_digest 196 = .ok (.iload_n 3, 1) := by decide +kernel
theorem dX13_digest_197 : decode cX13_digest 197 = .ok (.iload 4, 2) := by decide +kernel
theorem dX13_digest_199 : decode cX13_digest 199 = .ok (.invokevirtual 154, 3) := by decide +kernel
theorem dX13_digest_202 : decode cX13_digest 202 = .ok (.i2l, 1) := by decide +kernel
theorem dX13_digest_203 : decode cX13_digest 203 = .ok (.ladd, 1) := by decide +kernel
theorem dX13_digest_204 : decode cX13_digest 204 = .ok (.lstore_n 1, 1) := by decide +kernel
theorem dX13_digest_205 : decode cX13_digest 205 = .ok (.iinc 4 1, 3) := by decide +kernel
theorem dX13_digest_208 : decode cX13_digest 208 = .ok (.goto (-24), 3) := by decide +kernel
theorem dX13_digest_211 : decode cX13_digest 211 = .ok (.iinc 3 1, 3) := by decide +kernel
theorem dX13_digest_214 : decode cX13_digest 214 = .ok (.goto (-41), 3) := by decide +kernel
theorem dX13_digest_217 : decode cX13_digest 217 = .ok (.iconst 0, 1) := by decide +kernel
theorem dX13_digest_218 : decode cX13_digest 218 = .ok (.istore_n 3, 1) := by decide +kernel
theorem dX13_digest_219 : decode cX13_digest 219 = .ok (.iload_n 3, 1) := by decide +kernel
theorem dX13_digest_220 : decode cX13_digest 220 = .ok (.aload_n 0, 1) := by decide +kernel
theorem dX13_digest_221 : decode cX13_digest 221 = .ok (.getfield 117, 3) := by decide +kernel
theorem dX13_digest_224 : decode cX13_digest 224 = .ok (.if_icmp .ge 40, 3) := by decide +kernel
theorem dX13_digest_227 : decode cX13_digest 227 = .ok (.iconst 0, 1) := by decide +kernel
theorem dX13_digest_228 : decode cX13_digest 228 = .ok (.istore 4, 2) := by decide +kernel
theorem dX13_digest_230 : decode cX13_digest 230 = .ok (.iload 4, 2) := by decide +kernel
theorem dX13_digest_232 : decode cX13_digest 232 = .ok (.bipush 8, 2) := by decide +kernel
theorem dX13_digest_234 : decode cX13_digest 234 = .ok (.if_icmp .gt 24, 3) := by decide +kernel
theorem dX13_digest_237 : decode cX13_digest 237 = .ok (.lload_n 1, 1) := by decide +kernel
theorem dX13_digest_238 : decode cX13_digest 238 = .ok (.ldc2_w 273, 3) := by decide +kernel
theorem dX13_digest_241 : decode cX13_digest 241 = .ok (.lmul, 1) := by decide +kernel
theorem dX13_digest_242 : decode cX13_digest 242 = .ok (.aload_n 0, 1) := by decide +kernel
theorem dX13_digest_243 : decode cX13_digest 243 = .ok (.iload_n 3, 1) := by decide +kernel
theorem dX13_digest_244 : decode cX13_digest 244 = .ok (.iload 4, 2) := by decide +kernel
theorem dX13_digest_246 : decode cX13_digest 246 = .ok (.invokevirtual 166, 3) := by decide +kernel
theorem dX13_digest_249 : decode cX13_digest 249 = .ok (.i2l, 1) := by decide +kernel
theorem dX13_digest_250 : decode cX13_digest 250 = .ok (.ladd, 1) := by decide +kernel
theorem dX13_digest_251 : decode cX13_digest 251 = .ok (.lstore_n 1, 1) := by decide +kernel
theorem dX13_digest_252 : decode cX13_digest 252 = .ok (.iinc 4 1, 3) := by decide +kernel
theorem dX13_digest_255 : decode cX13_digest 255 = .ok (.goto (-25), 3) := by decide +kernel
theorem dX13_digest_258 : decode cX13_digest 258 = .ok (.iinc 3 1, 3) := by decide +kernel
theorem dX13_digest_261 : decode cX13_digest 261 = .ok (.goto (-42), 3) := by decide +kernel
theorem dX13_digest_264 : decode cX13_digest 264 = .ok (.iconst 0, 1) := by decide +kernel
theorem dX13_digest_265 : decode cX13_digest 265 = .ok (.istore_n 3, 1) := by decide +kernel
theorem dX13_digest_266 : decode cX13_digest 266 = .ok (.iload_n 3, 1) := by decide +kernel
theorem dX13_digest_267 : decode cX13_digest 267 = .ok (.aload_n 0, 1) := by decide +kernel
theorem dX13_digest_268 : decode cX13_digest 268 = .ok (.getfield 114, 3) := by decide +kernel
theorem dX13_digest_271 : decode cX13_digest 271 = .ok (.if_icmp .ge 86, 3) := by decide +kernel
theorem dX13_digest_274 : decode cX13_digest 274 = .ok (.iconst 0, 1) := by decide +kernel
theorem dX13_digest_275 : decode cX13_digest 275 = .ok (.istore 4, 2) := by decide +kernel
theorem dX13_digest_277 : decode cX13_digest 277 = .ok (.iload 4, 2) := by decide +kernel
theorem dX13_digest_279 : decode cX13_digest 279 = .ok (.bipush 9, 2) := by decide +kernel
theorem dX13_digest_281 : decode cX13_digest 281 = .ok (.if_icmp .gt 24, 3) := by decide +kernel
theorem dX13_digest_284 : decode cX13_digest 284 = .ok (.lload_n 1, 1) := by decide +kernel
theorem dX13_digest_285 : decode cX13_digest 285 = .ok (.ldc2_w 273, 3) := by decide +kernel
theorem dX13_digest_288 : decode cX13_digest 288 = .ok (.lmul, 1) := by decide +kernel
theorem dX13_digest_289 : decode cX13_digest 289 = .ok (.aload_n 0, 1) := by decide +kernel
theorem dX13_digest_290 : decode cX13_digest 290 = .ok (.iload_n 3, 1) := by decide +kernel
theorem dX13_digest_291 : decode cX13_digest 291 = .ok (.iload 4, 2) := by decide +kernel
theorem dX13_digest_293 : decode cX13_digest 293 = .ok (.invokevirtual 234, 3) := by decide +kernel
theorem dX13_digest_296 : decode cX13_digest 296 = .ok (.i2l, 1) := by decide +kernel
theorem dX13_digest_297 : decode cX13_digest 297 = .ok (.ladd, 1) := by decide +kernel
theorem dX13_digest_298 : decode cX13_digest 298 = .ok (.lstore_n 1, 1) := by decide +kernel
theorem dX13_digest_299 : decode cX13_digest 299 = .ok (.iinc 4 1, 3) := by decide +kernel
theorem dX13_digest_302 : decode cX13_digest 302 = .ok (.goto (-25), 3) := by decide +kernel
theorem dX13_digest_305 : decode cX13_digest 305 = .ok (.iconst 0, 1) := by decide +kernel
theorem dX13_digest_306 : decode cX13_digest 306 = .ok (.istore 4, 2) := by decide +kernel
theorem dX13_digest_308 : decode cX13_digest 308 = .ok (.iload 4, 2) := by decide +kernel
theorem dX13_digest_310 : decode cX13_digest 310 = .ok (.aload_n 0, 1) := by decide +kernel
theorem dX13_digest_311 : decode cX13_digest 311 = .ok (.getfield 70, 3) := by decide +kernel
theorem dX13_digest_314 : decode cX13_digest 314 = .ok (.getfield 169, 3) := by decide +kernel
theorem dX13_digest_317 : decode cX13_digest 317 = .ok (.iload_n 3, 1) := by decide +kernel
theorem dX13_digest_318 : decode cX13_digest 318 = .ok (.iaload, 1) := by decide +kernel
theorem dX13_digest_319 : decode cX13_digest 319 = .ok (.if_icmp .ge 32, 3) := by decide +kernel
theorem dX13_digest_322 : decode cX13_digest 322 = .ok (.lload_n 1, 1) := by decide +kernel
theorem dX13_digest_323 : decode cX13_digest 323 = .ok (.ldc2_w 273, 3) := by decide +kernel
theorem dX13_digest_326 : decode cX13_digest 326 = .ok (.lmul, 1) := by decide +kernel
theorem dX13_digest_327 : decode cX13_digest 327 = .ok (.aload_n 0, 1) := by decide +kernel
theorem dX13_digest_328 : decode cX13_digest 328 = .ok (.getfield 70, 3) := by decide +kernel
theorem dX13_digest_331 : decode cX13_digest 331 = .ok (.getfield 175, 3) := by decide +kernel
theorem dX13_digest_334 : decode cX13_digest 334 = .ok (.bipush 12, 2) := by decide +kernel
theorem dX13_digest_336 : decode cX13_digest 336 = .ok (.iload_n 3, 1) := by decide +kernel
theorem dX13_digest_337 : decode cX13_digest 337 = .ok (.imul, 1) := by decide +kernel
theorem dX13_digest_338 : decode cX13_digest 338 = .ok (.iload 4, 2) := by decide +kernel
theorem dX13_digest_340 : decode cX13_digest 340 = .ok (.iadd, 1) := by decide +kernel
theorem dX13_digest_341 : decode cX13_digest 341 = .ok (.iaload, 1) := by decide +kernel
theorem dX13_digest_342 : decode cX13_digest 342 = .ok (.i2l, 1) := by decide +kernel
theorem dX13_digest_343 : decode cX13_digest 343 = .ok (.ladd, 1) := by decide +kernel
theorem dX13_digest_344 : decode cX13_digest 344 = .ok (.lstore_n 1, 1) := by decide +kernel
theorem dX13_digest_345 : decode cX13_digest 345 = .ok (.iinc 4 1, 3) := by decide +kernel
theorem dX13_digest_348 : decode cX13_digest 348 = .ok (.goto (-40), 3) := by decide +kernel
theorem dX13_digest_351 : decode cX13_digest 351 = .ok (.iinc 3 1, 3) := by decide +kernel
theorem dX13_digest_354 : decode cX13_digest 354 = .ok (.goto (-88), 3) := by decide +kernel
theorem dX13_digest_357 : decode cX13_digest 357 = .ok (.lload_n 1, 1) := by decide +kernel
theorem dX13_digest_358 : decode cX13_digest 358 = .ok (.lreturn, 1) := by decide +kernel
section BL
variable {p : Program} {l : Launch} {e : Env} {s : State} {m : MethodId} {args : Array Value} {below : List Frame} {meth : Method} {c : Code} {w : Wd} {S : St}
theorem bX13_init_0 (B : Bd p s m args meth c cX13_init 1 (wsOf yX13_init cX13_init 1 none) RX13 w none "<init>") {v0 : Nat} {k n : Nat} {Q : State → Prop} (h1 : k + 1 ≤ rX13_init.cells) (h2 : n + 24 ≤ rX13_init.slots) (kk : ∀ q7 : Nat, kd S q7 = 0 → K p l e rX13_init s m args below meth c 1 w (k + 1) (n + 24) Q (nw S q7 21 24) 9 [(0, .ref v0)] [.ref q7, .ref v0]) : K p l e rX13_init s m args below meth c 1 w k n Q S 0 [(0, .ref v0)] [] := by
  refine k_aload_n B 0 rfl rfl dX13_init_0 ?_
  refine k_objInit B (in_of qlRX13_1) (in_of qi_obj) (in_of qc_obj) (Nat.le_of_ble_eq_true rfl) (Nat.le_of_ble_eq_true rfl) dX13_init_1 ?_
  refine k_aload_n B 0 rfl rfl dX13_init_4 ?_
  refine k_bipush (v := 24) B (by decide) dX13_init_5 ?_
  refine k_newI (N' := 24) B (in_of qarrI) (by decide) (by decide) (by decide) h1 h2 dX13_init_7 (fun q7 f7 => ?_)
  exact kk q7 f7
theorem bX13_init_9 (B : Bd p s m args meth c cX13_init 1 (wsOf yX13_init cX13_init 1 none) RX13 w none "<init>") {v0 : Nat} {t0 : Nat} {t1 : Nat} {k n : Nat} {Q : State → Prop} (h1 : kd S t0 = 15) (h2 : kd S v0 = 15) (h3 : k + 1 ≤ rX13_init.cells) (h4 : n + 16 ≤ rX13_init.slots) (kk : ∀ q27 : Nat, kd (sI (sI (sP S 897 t0 (some t1)) 898 v0 30) 899 v0 30) q27 = 0 → K p l e rX13_init s m args below meth c 1 w (k + 1) (n + 16) Q (nw (sI (sI (sP S 897 t0 (some t1)) 898 v0 30) 899 v0 30) q27 21 16) 29 [(0, .ref v0)] [.ref q27, .ref v0]) : K p l e rX13_init s m args below meth c 1 w k n Q S 9 [(0, .ref v0)] [.ref t1, .ref t0] := by
  refine k_putPF (f := 897) (v := some t1) B 14 1 rfl (by decide) rfl (by decide) rfl rfl (fun w h => in_of (uw_14 w h)) (in_of qfRX13_7) tyX13 tyX13_ok nmX13 rfl rfl rfl (tyX13_ok 1 (by decide)) rfl rfl dX13_init_9 h1 ?_
  refine k_aload_n B 0 rfl rfl dX13_init_12 ?_
  refine k_bipush (v := 30) B (by decide) dX13_init_13 ?_
  refine k_putI (f := 898) B 14 2 rfl (by decide) rfl (by decide) rfl rfl (fun w h => in_of (uw_14 w h)) (in_of qfRX13_13) tyX13 tyX13_ok nmX13 rfl (tyX13_ok 2 (by decide)) dX13_init_15 h2 ?_
  refine k_aload_n B 0 rfl rfl dX13_init_18 ?_
  refine k_bipush (v := 30) B (by decide) dX13_init_19 ?_
  refine k_putI (f := 899) B 14 3 rfl (by decide) rfl (by decide) rfl rfl (fun w h => in_of (uw_14 w h)) (in_of qfRX13_17) tyX13 tyX13_ok nmX13 rfl (tyX13_ok 3 (by decide)) dX13_init_21 h2 ?_
  refine k_aload_n B 0 rfl rfl dX13_init_24 ?_
  refine k_bipush (v := 16) B (by decide) dX13_init_25 ?_
  refine k_newI (N' := 16) B (in_of qarrI) (by decide) (by decide) (by decide) h3 h4 dX13_init_27 (fun q27 f27 => ?_)
  exact kk q27 f27
theorem bX13_init_29 (B : Bd p s m args meth c cX13_init 1 (wsOf yX13_init cX13_init 1 none) RX13 w none "<init>") {v0 : Nat} {t0 : Nat} {t1 : Nat} {k n : Nat} {Q : State → Prop} (h1 : kd S t0 = 15) (h2 : k + 1 ≤ rX13_init.cells) (h3 : n + 16 ≤ rX13_init.slots) (kk : ∀ q35 : Nat, kd (sP S 901 t0 (some t1)) q35 = 0 → K p l e rX13_init s m args below meth c 1 w (k + 1) (n + 16) Q (nw (sP S 901 t0 (some t1)) q35 21 16) 37 [(0, .ref v0)] [.ref q35, .ref v0]) : K p l e rX13_init s m args below meth c 1 w k n Q S 29 [(0, .ref v0)] [.ref t1, .ref t0] := by
  refine k_putPF (f := 901) (v := some t1) B 14 5 rfl (by decide) rfl (by decide) rfl rfl (fun w h => in_of (uw_14 w h)) (in_of qfRX13_20) tyX13 tyX13_ok nmX13 rfl rfl rfl (tyX13_ok 5 (by decide)) rfl rfl dX13_init_29 h1 ?_
  refine k_aload_n B 0 rfl rfl dX13_init_32 ?_
  refine k_bipush (v := 16) B (by decide) dX13_init_33 ?_
  refine k_newI (N' := 16) B (in_of qarrI) (by decide) (by decide) (by decide) h2 h3 dX13_init_35 (fun q35 f35 => ?_)
  exact kk q35 f35
theorem bX13_init_37 (B : Bd p s m args meth c cX13_init 1 (wsOf yX13_init cX13_init 1 none) RX13 w none "<init>") {v0 : Nat} {t0 : Nat} {t1 : Nat} {k n : Nat} {Q : State → Prop} (h1 : kd S t0 = 15) (h2 : k + 1 ≤ rX13_init.cells) (h3 : n + 16 ≤ rX13_init.slots) (kk : ∀ q43 : Nat, kd (sP S 902 t0 (some t1)) q43 = 0 → K p l e rX13_init s m args below meth c 1 w (k + 1) (n + 16) Q (nw (sP S 902 t0 (some t1)) q43 21 16) 45 [(0, .ref v0)] [.ref q43, .ref v0]) : K p l e rX13_init s m args below meth c 1 w k n Q S 37 [(0, .ref v0)] [.ref t1, .ref t0] := by
  refine k_putPF (f := 902) (v := some t1) B 14 6 rfl (by decide) rfl (by decide) rfl rfl (fun w h => in_of (uw_14 w h)) (in_of qfRX13_23) tyX13 tyX13_ok nmX13 rfl rfl rfl (tyX13_ok 6 (by decide)) rfl rfl dX13_init_37 h1 ?_
  refine k_aload_n B 0 rfl rfl dX13_init_40 ?_
  refine k_bipush (v := 16) B (by decide) dX13_init_41 ?_
  refine k_newI (N' := 16) B (in_of qarrI) (by decide) (by decide) (by decide) h2 h3 dX13_init_43 (fun q43 f43 => ?_)
  exact kk q43 f43
theorem bX13_init_45 (B : Bd p s m args meth c cX13_init 1 (wsOf yX13_init cX13_init 1 none) RX13 w none "<init>") {v0 : Nat} {t0 : Nat} {t1 : Nat} {k n : Nat} {Q : State → Prop} (h1 : kd S t0 = 15) (h2 : k + 1 ≤ rX13_init.cells) (h3 : n + 16 ≤ rX13_init.slots) (kk : ∀ q51 : Nat, kd (sP S 903 t0 (some t1)) q51 = 0 → K p l e rX13_init s m args below meth c 1 w (k + 1) (n + 16) Q (nw (sP S 903 t0 (some t1)) q51 21 16) 53 [(0, .ref v0)] [.ref q51, .ref v0]) : K p l e rX13_init s m args below meth c 1 w k n Q S 45 [(0, .ref v0)] [.ref t1, .ref t0] := by
  refine k_putPF (f := 903) (v := some t1) B 14 7 rfl (by decide) rfl (by decide) rfl rfl (fun w h => in_of (uw_14 w h)) (in_of qfRX13_26) tyX13 tyX13_ok nmX13 rfl rfl rfl (tyX13_ok 7 (by decide)) rfl rfl dX13_init_45 h1 ?_
  refine k_aload_n B 0 rfl rfl dX13_init_48 ?_
  refine k_bipush (v := 16) B (by decide) dX13_init_49 ?_
  refine k_newI (N' := 16) B (in_of qarrI) (by decide) (by decide) (by decide) h2 h3 dX13_init_51 (fun q51 f51 => ?_)
  exact kk q51 f51
theorem bX13_init_53 (B : Bd p s m args meth c cX13_init 1 (wsOf yX13_init cX13_init 1 none) RX13 w none "<init>") {v0 : Nat} {t0 : Nat} {t1 : Nat} {k n : Nat} {Q : State → Prop} (h1 : kd S t0 = 15) (h2 : k + 1 ≤ rX13_init.cells) (h3 : n + 48 ≤ rX13_init.slots) (kk : ∀ q59 : Nat, kd (sP S 904 t0 (some t1)) q59 = 0 → K p l e rX13_init s m args below meth c 1 w (k + 1) (n + 48) Q (nw (sP S 904 t0 (some t1)) q59 21 48) 61 [(0, .ref v0)] [.ref q59, .ref v0]) : K p l e rX13_init s m args below meth c 1 w k n Q S 53 [(0, .ref v0)] [.ref t1, .ref t0] := by
  refine k_putPF (f := 904) (v := some t1) B 14 8 rfl (by decide) rfl (by decide) rfl rfl (fun w h => in_of (uw_14 w h)) (in_of qfRX13_29) tyX13 tyX13_ok nmX13 rfl rfl rfl (tyX13_ok 8 (by decide)) rfl rfl dX13_init_53 h1 ?_
  refine k_aload_n B 0 rfl rfl dX13_init_56 ?_
  refine k_bipush (v := 48) B (by decide) dX13_init_57 ?_
  refine k_newI (N' := 48) B (in_of qarrI) (by decide) (by decide) (by decide) h2 h3 dX13_init_59 (fun q59 f59 => ?_)
  exact kk q59 f59
theorem bX13_init_61 (B : Bd p s m args meth c cX13_init 1 (wsOf yX13_init cX13_init 1 none) RX13 w none "<init>") {v0 : Nat} {t0 : Nat} {t1 : Nat} {k n : Nat} {Q : State → Prop} (h1 : kd S t0 = 15) (h2 : k + 1 ≤ rX13_init.cells) (h3 : n + 4 ≤ rX13_init.slots) (kk : ∀ q66 : Nat, kd (sP S 905 t0 (some t1)) q66 = 0 → K p l e rX13_init s m args below meth c 1 w (k + 1) (n + 4) Q (nw (sP S 905 t0 (some t1)) q66 21 4) 68 [(0, .ref v0)] [.ref q66, .ref v0]) : K p l e rX13_init s m args below meth c 1 w k n Q S 61 [(0, .ref v0)] [.ref t1, .ref t0] := by
  refine k_putPF (f := 905) (v := some t1) B 14 9 rfl (by decide) rfl (by decide) rfl rfl (fun w h => in_of (uw_14 w h)) (in_of qfRX13_32) tyX13 tyX13_ok nmX13 rfl rfl rfl (tyX13_ok 9 (by decide)) rfl rfl dX13_init_61 h1 ?_
  refine k_aload_n B 0 rfl rfl dX13_init_64 ?_
  refine k_iconst (v := 4) B (by decide) dX13_init_65 ?_
  refine k_newI (N' := 4) B (in_of qarrI) (by decide) (by decide) (by decide) h2 h3 dX13_init_66 (fun q66 f66 => ?_)
  exact kk q66 f66
theorem bX13_init_68 (B : Bd p s m args meth c cX13_init 1 (wsOf yX13_init cX13_init 1 none) RX13 w none "<init>") {v0 : Nat} {t0 : Nat} {t1 : Nat} {k n : Nat} {Q : State → Prop} (h1 : kd S t0 = 15) (h2 : k + 1 ≤ rX13_init.cells) (h3 : n + 4 ≤ rX13_init.slots) (kk : ∀ q73 : Nat, kd (sP S 907 t0 (some t1)) q73 = 0 → K p l e rX13_init s m args below meth c 1 w (k + 1) (n + 4) Q (nw (sP S 907 t0 (some t1)) q73 21 4) 75 [(0, .ref v0)] [.ref q73, .ref v0]) : K p l e rX13_init s m args below meth c 1 w k n Q S 68 [(0, .ref v0)] [.ref t1, .ref t0] := by
  refine k_putPF (f := 907) (v := some t1) B 14 11 rfl (by decide) rfl (by decide) rfl rfl (fun w h => in_of (uw_14 w h)) (in_of qfRX13_35) tyX13 tyX13_ok nmX13 rfl rfl rfl (tyX13_ok 11 (by decide)) rfl rfl dX13_init_68 h1 ?_
  refine k_aload_n B 0 rfl rfl dX13_init_71 ?_
  refine k_iconst (v := 4) B (by decide) dX13_init_72 ?_
  refine k_newI (N' := 4) B (in_of qarrI) (by decide) (by decide) (by decide) h2 h3 dX13_init_73 (fun q73 f73 => ?_)
  exact kk q73 f73
theorem bX13_init_75 (B : Bd p s m args meth c cX13_init 1 (wsOf yX13_init cX13_init 1 none) RX13 w none "<init>") {v0 : Nat} {t0 : Nat} {t1 : Nat} {k n : Nat} {Q : State → Prop} (h1 : kd S t0 = 15) (h2 : k + 1 ≤ rX13_init.cells) (h3 : n + 4 ≤ rX13_init.slots) (kk : ∀ q80 : Nat, kd (sP S 908 t0 (some t1)) q80 = 0 → K p l e rX13_init s m args below meth c 1 w (k + 1) (n + 4) Q (nw (sP S 908 t0 (some t1)) q80 21 4) 82 [(0, .ref v0)] [.ref q80, .ref v0]) : K p l e rX13_init s m args below meth c 1 w k n Q S 75 [(0, .ref v0)] [.ref t1, .ref t0] := by
  refine k_putPF (f := 908) (v := some t1) B 14 12 rfl (by decide) rfl (by decide) rfl rfl (fun w h => in_of (uw_14 w h)) (in_of qfRX13_38) tyX13 tyX13_ok nmX13 rfl rfl rfl (tyX13_ok 12 (by decide)) rfl rfl dX13_init_75 h1 ?_
  refine k_aload_n B 0 rfl rfl dX13_init_78 ?_
  refine k_iconst (v := 4) B (by decide) dX13_init_79 ?_
  refine k_newI (N' := 4) B (in_of qarrI) (by decide) (by decide) (by decide) h2 h3 dX13_init_80 (fun q80 f80 => ?_)
  exact kk q80 f80
theorem bX13_init_82 (B : Bd p s m args meth c cX13_init 1 (wsOf yX13_init cX13_init 1 none) RX13 w none "<init>") {v0 : Nat} {t0 : Nat} {t1 : Nat} {k n : Nat} {Q : State → Prop} (h1 : kd S t0 = 15) (h2 : k + 1 ≤ rX13_init.cells) (h3 : n + 4 ≤ rX13_init.slots) (kk : ∀ q87 : Nat, kd (sP S 910 t0 (some t1)) q87 = 0 → K p l e rX13_init s m args below meth c 1 w (k + 1) (n + 4) Q (nw (sP S 910 t0 (some t1)) q87 21 4) 89 [(0, .ref v0)] [.ref q87, .ref v0]) : K p l e rX13_init s m args below meth c 1 w k n Q S 82 [(0, .ref v0)] [.ref t1, .ref t0] := by
  refine k_putPF (f := 910) (v := some t1) B 14 14 rfl (by decide) rfl (by decide) rfl rfl (fun w h => in_of (uw_14 w h)) (in_of qfRX13_41) tyX13 tyX13_ok nmX13 rfl rfl rfl (tyX13_ok 14 (by decide)) rfl rfl dX13_init_82 h1 ?_
  refine k_aload_n B 0 rfl rfl dX13_init_85 ?_
  refine k_iconst (v := 4) B (by decide) dX13_init_86 ?_
  refine k_newI (N' := 4) B (in_of qarrI) (by decide) (by decide) (by decide) h2 h3 dX13_init_87 (fun q87 f87 => ?_)
  exact kk q87 f87
theorem bX13_init_89 (B : Bd p s m args meth c cX13_init 1 (wsOf yX13_init cX13_init 1 none) RX13 w none "<init>") {v0 : Nat} {t0 : Nat} {t1 : Nat} {k n : Nat} {Q : State → Prop} (h1 : kd S t0 = 15) (h2 : k + 1 ≤ rX13_init.cells) (h3 : n + 4 ≤ rX13_init.slots) (kk : ∀ q94 : Nat, kd (sP S 911 t0 (some t1)) q94 = 0 → K p l e rX13_init s m args below meth c 1 w (k + 1) (n + 4) Q (nw (sP S 911 t0 (some t1)) q94 21 4) 96 [(0, .ref v0)] [.ref q94, .ref v0]) : K p l e rX13_init s m args below meth c 1 w k n Q S 89 [(0, .ref v0)] [.ref t1, .ref t0] := by
  refine k_putPF (f := 911) (v := some t1) B 14 15 rfl (by decide) rfl (by decide) rfl rfl (fun w h => in_of (uw_14 w h)) (in_of qfRX13_44) tyX13 tyX13_ok nmX13 rfl rfl rfl (tyX13_ok 15 (by decide)) rfl rfl dX13_init_89 h1 ?_
  refine k_aload_n B 0 rfl rfl dX13_init_92 ?_
  refine k_iconst (v := 4) B (by decide) dX13_init_93 ?_
  refine k_newI (N' := 4) B (in_of qarrI) (by decide) (by decide) (by decide) h2 h3 dX13_init_94 (fun q94 f94 => ?_)
  exact kk q94 f94
theorem bX13_init_96 (B : Bd p s m args meth c cX13_init 1 (wsOf yX13_init cX13_init 1 none) RX13 w none "<init>") {v0 : Nat} {t0 : Nat} {t1 : Nat} {k n : Nat} {Q : State → Prop} (h1 : kd S t0 = 15) (h2 : k + 1 ≤ rX13_init.cells) (h3 : n + 30 ≤ rX13_init.slots) (kk : ∀ q102 : Nat, kd (sP S 912 t0 (some t1)) q102 = 0 → K p l e rX13_init s m args below meth c 1 w (k + 1) (n + 30) Q (nw (sP S 912 t0 (some t1)) q102 21 30) 104 [(0, .ref v0)] [.ref q102, .ref v0]) : K p l e rX13_init s m args below meth c 1 w k n Q S 96 [(0, .ref v0)] [.ref t1, .ref t0] := by
  refine k_putPF (f := 912) (v := some t1) B 14 16 rfl (by decide) rfl (by decide) rfl rfl (fun w h => in_of (uw_14 w h)) (in_of qfRX13_47) tyX13 tyX13_ok nmX13 rfl rfl rfl (tyX13_ok 16 (by decide)) rfl rfl dX13_init_96 h1 ?_
  refine k_aload_n B 0 rfl rfl dX13_init_99 ?_
  refine k_bipush (v := 30) B (by decide) dX13_init_100 ?_
  refine k_newI (N' := 30) B (in_of qarrI) (by decide) (by decide) (by decide) h2 h3 dX13_init_102 (fun q102 f102 => ?_)
  exact kk q102 f102
theorem bX13_init_104 (B : Bd p s m args meth c cX13_init 1 (wsOf yX13_init cX13_init 1 none) RX13 w none "<init>") {v0 : Nat} {t0 : Nat} {t1 : Nat} {k n : Nat} {Q : State → Prop} (h1 : kd S t0 = 15) (h2 : k + 1 ≤ rX13_init.cells) (h3 : n + 30 ≤ rX13_init.slots) (kk : ∀ q110 : Nat, kd (sP S 914 t0 (some t1)) q110 = 0 → K p l e rX13_init s m args below meth c 1 w (k + 1) (n + 30) Q (nw (sP S 914 t0 (some t1)) q110 21 30) 112 [(0, .ref v0)] [.ref q110, .ref v0]) : K p l e rX13_init s m args below meth c 1 w k n Q S 104 [(0, .ref v0)] [.ref t1, .ref t0] := by
  refine k_putPF (f := 914) (v := some t1) B 14 18 rfl (by decide) rfl (by decide) rfl rfl (fun w h => in_of (uw_14 w h)) (in_of qfRX13_50) tyX13 tyX13_ok nmX13 rfl rfl rfl (tyX13_ok 18 (by decide)) rfl rfl dX13_init_104 h1 ?_
  refine k_aload_n B 0 rfl rfl dX13_init_107 ?_
  refine k_bipush (v := 30) B (by decide) dX13_init_108 ?_
  refine k_newI (N' := 30) B (in_of qarrI) (by decide) (by decide) (by decide) h2 h3 dX13_init_110 (fun q110 f110 => ?_)
  exact kk q110 f110
theorem bX13_init_112 (B : Bd p s m args meth c cX13_init 1 (wsOf yX13_init cX13_init 1 none) RX13 w none "<init>") {v0 : Nat} {t0 : Nat} {t1 : Nat} {k n : Nat} {Q : State → Prop} (h1 : kd S t0 = 15) (h2 : k + 1 ≤ rX13_init.cells) (h3 : n + 30 ≤ rX13_init.slots) (kk : ∀ q118 : Nat, kd (sP S 915 t0 (some t1)) q118 = 0 → K p l e rX13_init s m args below meth c 1 w (k + 1) (n + 30) Q (nw (sP S 915 t0 (some t1)) q118 21 30) 120 [(0, .ref v0)] [.ref q118, .ref v0]) : K p l e rX13_init s m args below meth c 1 w k n Q S 112 [(0, .ref v0)] [.ref t1, .ref t0] := by
  refine k_putPF (f := 915) (v := some t1) B 14 19 rfl (by decide) rfl (by decide) rfl rfl (fun w h => in_of (uw_14 w h)) (in_of qfRX13_53) tyX13 tyX13_ok nmX13 rfl rfl rfl (tyX13_ok 19 (by decide)) rfl rfl dX13_init_112 h1 ?_
  refine k_aload_n B 0 rfl rfl dX13_init_115 ?_
  refine k_bipush (v := 30) B (by decide) dX13_init_116 ?_
  refine k_newI (N' := 30) B (in_of qarrI) (by decide) (by decide) (by decide) h2 h3 dX13_init_118 (fun q118 f118 => ?_)
  exact kk q118 f118
theorem bX13_init_120 (B : Bd p s m args meth c cX13_init 1 (wsOf yX13_init cX13_init 1 none) RX13 w none "<init>") {v0 : Nat} {t0 : Nat} {t1 : Nat} {k n : Nat} {Q : State → Prop} (h1 : kd S t0 = 15) (h2 : k + 1 ≤ rX13_init.cells) (h3 : n + 30 ≤ rX13_init.slots) (kk : ∀ q126 : Nat, kd (sP S 916 t0 (some t1)) q126 = 0 → K p l e rX13_init s m args below meth c 1 w (k + 1) (n + 30) Q (nw (sP S 916 t0 (some t1)) q126 21 30) 128 [(0, .ref v0)] [.ref q126, .ref v0]) : K p l e rX13_init s m args below meth c 1 w k n Q S 120 [(0, .ref v0)] [.ref t1, .ref t0] := by
  refine k_putPF (f := 916) (v := some t1) B 14 20 rfl (by decide) rfl (by decide) rfl rfl (fun w h => in_of (uw_14 w h)) (in_of qfRX13_56) tyX13 tyX13_ok nmX13 rfl rfl rfl (tyX13_ok 20 (by decide)) rfl rfl dX13_init_120 h1 ?_
  refine k_aload_n B 0 rfl rfl dX13_init_123 ?_
  refine k_bipush (v := 30) B (by decide) dX13_init_124 ?_
  refine k_newI (N' := 30) B (in_of qarrI) (by decide) (by decide) (by decide) h2 h3 dX13_init_126 (fun q126 f126 => ?_)
  exact kk q126 f126
theorem bX13_init_128 (B : Bd p s m args meth c cX13_init 1 (wsOf yX13_init cX13_init 1 none) RX13 w none "<init>") {v0 : Nat} {t0 : Nat} {t1 : Nat} {k n : Nat} {Q : State → Prop} (h1 : kd S t0 = 15) (h2 : k + 1 ≤ rX13_init.cells) (h3 : n + 30 ≤ rX13_init.slots) (kk : ∀ q134 : Nat, kd (sP S 917 t0 (some t1)) q134 = 0 → K p l e rX13_init s m args below meth c 1 w (k + 1) (n + 30) Q (nw (sP S 917 t0 (some t1)) q134 21 30) 136 [(0, .ref v0)] [.ref q134, .ref v0]) : K p l e rX13_init s m args below meth c 1 w k n Q S 128 [(0, .ref v0)] [.ref t1, .ref t0] := by
  refine k_putPF (f := 917) (v := some t1) B 14 21 rfl (by decide) rfl (by decide) rfl rfl (fun w h => in_of (uw_14 w h)) (in_of qfRX13_59) tyX13 tyX13_ok nmX13 rfl rfl rfl (tyX13_ok 21 (by decide)) rfl rfl dX13_init_128 h1 ?_
  refine k_aload_n B 0 rfl rfl dX13_init_131 ?_
  refine k_bipush (v := 30) B (by decide) dX13_init_132 ?_
  refine k_newI (N' := 30) B (in_of qarrI) (by decide) (by decide) (by decide) h2 h3 dX13_init_134 (fun q134 f134 => ?_)
  exact kk q134 f134
theorem bX13_init_136 (B : Bd p s m args meth c cX13_init 1 (wsOf yX13_init cX13_init 1 none) RX13 w none "<init>") {v0 : Nat} {t0 : Nat} {t1 : Nat} {k n : Nat} {Q : State → Prop} (h1 : kd S t0 = 15) (h2 : k + 1 ≤ rX13_init.cells) (h3 : n + 15 ≤ rX13_init.slots) (kk : ∀ q140 : Nat, kd (sP S 918 t0 (some t1)) q140 = 0 → K p l e rX13_init s m args below meth c 1 w (k + 1) (n + 15) Q (nw (sP S 918 t0 (some t1)) q140 14 0) 143 [(0, .ref v0)] [.ref q140, .ref v0]) : K p l e rX13_init s m args below meth c 1 w k n Q S 136 [(0, .ref v0)] [.ref t1, .ref t0] := by
  refine k_putPF (f := 918) (v := some t1) B 14 22 rfl (by decide) rfl (by decide) rfl rfl (fun w h => in_of (uw_14 w h)) (in_of qfRX13_62) tyX13 tyX13_ok nmX13 rfl rfl rfl (tyX13_ok 22 (by decide)) rfl rfl dX13_init_136 h1 ?_
  refine k_aload_n B 0 rfl rfl dX13_init_139 ?_
  refine k_new B 13 rfl rfl (by decide) tyX12 tyX12_ok (by decide +kernel) (fun w h => in_of (uw_13 w h)) (in_of qkRX13_65) (in_of qn13) (in_of qzRX12) h2 h3 dX13_init_140 (fun q140 f140 => ?_)
  exact kk q140 f140
theorem bX13_init_143 (B : Bd p s m args meth c cX13_init 1 (wsOf yX13_init cX13_init 1 none) RX13 w none "<init>") {v0 : Nat} {t0 : Nat} {t1 : Nat} {post : St → Prop} {k n : Nat} {Q : State → Prop} (hc : ConV l yX12_init (wsOf yX12_init cX12_init 2 none) rX12_init w S [.ref t1, .ref v0] post) (h1 : k + 8 ≤ rX13_init.cells) (h2 : n + 214 ≤ rX13_init.slots) (kk : ∀ (S' : St), post S' → K p l e rX13_init s m args below meth c 1 w (k + 8) (n + 214) Q S' 148 [(0, .ref v0)] [.ref t1, .ref t0]) : K p l e rX13_init s m args below meth c 1 w k n Q S 143 [(0, .ref v0)] [.ref t1, .ref t0] := by
  refine k_dup B rfl dX13_init_143 ?_
  refine k_aload_n B 0 rfl rfl dX13_init_144 ?_
  refine callCN_V (st := [.ref t1, .ref t0]) B [.ref v0] (hc) ⟨va_cnB 1 B.1.2.2.2.2 (gB qcX12_init) rfl rfl rfl (nzM_3 B.2.2.2.1.2.2.2.1) (B.1.2.2.2.2 _ (in_of qzRX12)) (by decide +kernel) ⟨Nat.le_of_ble_eq_true rfl, Nat.le_of_ble_eq_true rfl⟩, rfl, B.1.2.2.2.2 _ (in_of qiX12_init)⟩ rfl (Nat.le_of_ble_eq_true rfl) rfl dX13_init_145 ⟨h1, h2⟩ (fun S' hp => ?_)
  exact kk S' hp
theorem bX13_init_148 (B : Bd p s m args meth c cX13_init 1 (wsOf yX13_init cX13_init 1 none) RX13 w none "<init>") {v0 : Nat} {t0 : Nat} {t1 : Nat} {k n : Nat} {Q : State → Prop} (h1 : kd S t0 = 15) (h2 : k + 1 ≤ rX13_init.cells) (h3 : n + 15 ≤ rX13_init.slots) (kk : ∀ q152 : Nat, kd (sP S 919 t0 (some t1)) q152 = 0 → K p l e rX13_init s m args below meth c 1 w (k + 1) (n + 15) Q (nw (sP S 919 t0 (some t1)) q152 14 0) 155 [(0, .ref v0)] [.ref q152, .ref v0]) : K p l e rX13_init s m args below meth c 1 w k n Q S 148 [(0, .ref v0)] [.ref t1, .ref t0] := by
  refine k_putPF (f := 919) (v := some t1) B 14 23 rfl (by decide) rfl (by decide) rfl rfl (fun w h => in_of (uw_14 w h)) (in_of qfRX13_70) tyX13 tyX13_ok nmX13 rfl rfl rfl (tyX13_ok 23 (by decide)) rfl rfl dX13_init_148 h1 ?_
  refine k_aload_n B 0 rfl rfl dX13_init_151 ?_
  refine k_new B 13 rfl rfl (by decide) tyX12 tyX12_ok (by decide +kernel) (fun w h => in_of (uw_13 w h)) (in_of qkRX13_65) (in_of qn13) (in_of qzRX12) h2 h3 dX13_init_152 (fun q152 f152 => ?_)
  exact kk q152 f152
theorem bX13_init_155 (B : Bd p s m args meth c cX13_init 1 (wsOf yX13_init cX13_init 1 none) RX13 w none "<init>") {v0 : Nat} {t0 : Nat} {t1 : Nat} {post : St → Prop} {k n : Nat} {Q : State → Prop} (hc : ConV l yX12_init (wsOf yX12_init cX12_init 2 none) rX12_init w S [.ref t1, .ref v0] post) (h1 : k + 8 ≤ rX13_init.cells) (h2 : n + 214 ≤ rX13_init.slots) (kk : ∀ (S' : St), post S' → K p l e rX13_init s m args below meth c 1 w (k + 8) (n + 214) Q S' 160 [(0, .ref v0)] [.ref t1, .ref t0]) : K p l e rX13_init s m args below meth c 1 w k n Q S 155 [(0, .ref v0)] [.ref t1, .ref t0] := by
  refine k_dup B rfl dX13_init_155 ?_
  refine k_aload_n B 0 rfl rfl dX13_init_156 ?_
  refine callCN_V (st := [.ref t1, .ref t0]) B [.ref v0] (hc) ⟨va_cnB 1 B.1.2.2.2.2 (gB qcX12_init) rfl rfl rfl (nzM_3 B.2.2.2.1.2.2.2.1) (B.1.2.2.2.2 _ (in_of qzRX12)) (by decide +kernel) ⟨Nat.le_of_ble_eq_true rfl, Nat.le_of_ble_eq_true rfl⟩, rfl, B.1.2.2.2.2 _ (in_of qiX12_init)⟩ rfl (Nat.le_of_ble_eq_true rfl) rfl dX13_init_157 ⟨h1, h2⟩ (fun S' hp => ?_)
  exact kk S' hp
theorem bX13_init_160 (B : Bd p s m args meth c cX13_init 1 (wsOf yX13_init cX13_init 1 none) RX13 w none "<init>") {v0 : Nat} {t0 : Nat} {t1 : Nat} {k n : Nat} {Q : State → Prop} (h1 : kd S t0 = 15) (h2 : k + 1 ≤ rX13_init.cells) (h3 : n + 13 ≤ rX13_init.slots) (kk : ∀ q166 : Nat, kd (sP S 920 t0 (some t1)) q166 = 0 → K p l e rX13_init s m args below meth c 1 w (k + 1) (n + 13) Q (nw (sP S 920 t0 (some t1)) q166 21 13) 168 [(0, .ref v0)] [.ref q166, .ref v0]) : K p l e rX13_init s m args below meth c 1 w k n Q S 160 [(0, .ref v0)] [.ref t1, .ref t0] := by
  refine k_putPF (f := 920) (v := some t1) B 14 24 rfl (by decide) rfl (by decide) rfl rfl (fun w h => in_of (uw_14 w h)) (in_of qfRX13_74) tyX13 tyX13_ok nmX13 rfl rfl rfl (tyX13_ok 24 (by decide)) rfl rfl dX13_init_160 h1 ?_
  refine k_aload_n B 0 rfl rfl dX13_init_163 ?_
  refine k_bipush (v := 13) B (by decide) dX13_init_164 ?_
  refine k_newI (N' := 13) B (in_of qarrI) (by decide) (by decide) (by decide) h2 h3 dX13_init_166 (fun q166 f166 => ?_)
  exact kk q166 f166
theorem bX13_init_168 (B : Bd p s m args meth c cX13_init 1 (wsOf yX13_init cX13_init 1 none) RX13 w none "<init>") {v0 : Nat} {t0 : Nat} {t1 : Nat} {k n : Nat} {Q : State → Prop} (h1 : kd S t0 = 15) (h2 : k + 1 ≤ rX13_init.cells) (h3 : n + 13 ≤ rX13_init.slots) (kk : ∀ q174 : Nat, kd (sP S 921 t0 (some t1)) q174 = 0 → K p l e rX13_init s m args below meth c 1 w (k + 1) (n + 13) Q (nw (sP S 921 t0 (some t1)) q174 21 13) 176 [(0, .ref v0)] [.ref q174, .ref v0]) : K p l e rX13_init s m args below meth c 1 w k n Q S 168 [(0, .ref v0)] [.ref t1, .ref t0] := by
  refine k_putPF (f := 921) (v := some t1) B 14 25 rfl (by decide) rfl (by decide) rfl rfl (fun w h => in_of (uw_14 w h)) (in_of qfRX13_77) tyX13 tyX13_ok nmX13 rfl rfl rfl (tyX13_ok 25 (by decide)) rfl rfl dX13_init_168 h1 ?_
  refine k_aload_n B 0 rfl rfl dX13_init_171 ?_
  refine k_bipush (v := 13) B (by decide) dX13_init_172 ?_
  refine k_newI (N' := 13) B (in_of qarrI) (by decide) (by decide) (by decide) h2 h3 dX13_init_174 (fun q174 f174 => ?_)
  exact kk q174 f174
theorem bX13_init_176 (B : Bd p s m args meth c cX13_init 1 (wsOf yX13_init cX13_init 1 none) RX13 w none "<init>") {v0 : Nat} {t0 : Nat} {t1 : Nat} {k n : Nat} {Q : State → Prop} (h1 : kd S t0 = 15) (h2 : k + 1 ≤ rX13_init.cells) (h3 : n + 13 ≤ rX13_init.slots) (kk : ∀ q182 : Nat, kd (sP S 923 t0 (some t1)) q182 = 0 → K p l e rX13_init s m args below meth c 1 w (k + 1) (n + 13) Q (nw (sP S 923 t0 (some t1)) q182 21 13) 184 [(0, .ref v0)] [.ref q182, .ref v0]) : K p l e rX13_init s m args below meth c 1 w k n Q S 176 [(0, .ref v0)] [.ref t1, .ref t0] := by
  refine k_putPF (f := 923) (v := some t1) B 14 27 rfl (by decide) rfl (by decide) rfl rfl (fun w h => in_of (uw_14 w h)) (in_of qfRX13_80) tyX13 tyX13_ok nmX13 rfl rfl rfl (tyX13_ok 27 (by decide)) rfl rfl dX13_init_176 h1 ?_
  refine k_aload_n B 0 rfl rfl dX13_init_179 ?_
  refine k_bipush (v := 13) B (by decide) dX13_init_180 ?_
  refine k_newI (N' := 13) B (in_of qarrI) (by decide) (by decide) (by decide) h2 h3 dX13_init_182 (fun q182 f182 => ?_)
  exact kk q182 f182
theorem bX13_init_184 (B : Bd p s m args meth c cX13_init 1 (wsOf yX13_init cX13_init 1 none) RX13 w none "<init>") {v0 : Nat} {t0 : Nat} {t1 : Nat} {k n : Nat} {Q : State → Prop} (h1 : kd S t0 = 15) (h2 : k + 1 ≤ rX13_init.cells) (h3 : n + 13 ≤ rX13_init.slots) (kk : ∀ q190 : Nat, kd (sP S 924 t0 (some t1)) q190 = 0 → K p l e rX13_init s m args below meth c 1 w (k + 1) (n + 13) Q (nw (sP S 924 t0 (some t1)) q190 21 13) 192 [(0, .ref v0)] [.ref q190, .ref v0]) : K p l e rX13_init s m args below meth c 1 w k n Q S 184 [(0, .ref v0)] [.ref t1, .ref t0] := by
  refine k_putPF (f := 924) (v := some t1) B 14 28 rfl (by decide) rfl (by decide) rfl rfl (fun w h => in_of (uw_14 w h)) (in_of qfRX13_83) tyX13 tyX13_ok nmX13 rfl rfl rfl (tyX13_ok 28 (by decide)) rfl rfl dX13_init_184 h1 ?_
  refine k_aload_n B 0 rfl rfl dX13_init_187 ?_
  refine k_bipush (v := 13) B (by decide) dX13_init_188 ?_
  refine k_newI (N' := 13) B (in_of qarrI) (by decide) (by decide) (by decide) h2 h3 dX13_init_190 (fun q190 f190 => ?_)
  exact kk q190 f190
theorem bX13_init_192 (B : Bd p s m args meth c cX13_init 1 (wsOf yX13_init cX13_init 1 none) RX13 w none "<init>") {v0 : Nat} {t0 : Nat} {t1 : Nat} {x1 : Nat} {post : St → Prop} {k n : Nat} {Q : State → Prop} (h1 : kd S t0 = 15) (h2 : kd S v0 = 15) (h3 : gP S 897 v0 = some x1) (hc : ConV l yJ7_fill_53178 (wsOf yJ7_fill_53178 cJ7_fill_53178 4 none) rJ7_fill_53178 w (sP S 925 t0 (some t1)) [.ref x1, .int 10] post) (h4 : k + 0 ≤ rX13_init.cells) (h5 : n + 0 ≤ rX13_init.slots) (kk : ∀ (S' : St), post S' → K p l e rX13_init s m args below meth c 1 w k n Q S' 204 [] []) : K p l e rX13_init s m args below meth c 1 w k n Q S 192 [(0, .ref v0)] [.ref t1, .ref t0] := by
  refine k_putPF (f := 925) (v := some t1) B 14 29 rfl (by decide) rfl (by decide) rfl rfl (fun w h => in_of (uw_14 w h)) (in_of qfRX13_86) tyX13 tyX13_ok nmX13 rfl rfl rfl (tyX13_ok 29 (by decide)) rfl rfl dX13_init_192 h1 ?_
  refine k_aload_n B 0 rfl rfl dX13_init_195 ?_
  refine k_getP (f := 897) (r := gP S 897 v0) B 14 1 rfl (by decide) rfl (by decide) rfl rfl (fun w h => in_of (uw_14 w h)) (in_of qfRX13_7) dX13_init_196 h2 rfl ?_
  rw [h3]; change K _ _ _ _ _ _ _ _ _ _ _ _ _ _ _ _ _ _ (.ref x1 :: _)
  refine k_bipush (v := 10) B (by decide) dX13_init_199 ?_
  refine callS_V (st := []) B [.ref x1, .int 10] (hc) (va_cwS 2 B.1.2.2.2.2 (gS qlRX13_89 qsJ7_fill_53178 qzRJ7 qcJ7_fill_53178) rfl rfl rfl (by decide +kernel) ⟨Nat.le_of_ble_eq_true rfl, Nat.le_of_ble_eq_true rfl⟩) rfl (Nat.le_of_ble_eq_true rfl) rfl dX13_init_201 ⟨h4, h5⟩ (fun S' hp => ?_)
  refine k_sub [] rfl ?_
  exact kk S' hp
theorem bX13_init_204 (B : Bd p s m args meth c cX13_init 1 (wsOf yX13_init cX13_init 1 none) RX13 w none "<init>") {post : St → Prop} {k n : Nat}  (hq : post S) : K p l e rX13_init s m args below meth c 1 w k n (MQ below (va_Qv post (fun S' t => Hd w S' t.heap) (wA w)) args s k n (wA w)) S 204 [] [] := by
  exact ret_V B rfl dX13_init_204 (hq)
theorem bX13_thrown_0 (B : Bd p s m args meth c cX13_thrown 1 (wsOf yX13_thrown cX13_thrown 1 (some .int)) RX13 w (some .int) "thrown") {v0 : Nat} {post : Int32 → St → Prop} (h1 : kd S v0 = 15) (hq : post (gI S 896 v0) S) : K p l e rX13_thrown s m args below meth c 1 w 0 0 (MQ below (va_Qi post (fun S' t => Hd w S' t.heap) (wA w)) args s 0 0 (wA w)) S 0 [(0, .ref v0)] [] := by
  refine k_aload_n B 0 rfl rfl dX13_thrown_0 ?_
  refine k_getI (f := 896) (v := gI S 896 v0) B 14 0 rfl (by decide) rfl (by decide) rfl rfl (fun w h => in_of (uw_14 w h)) (in_of qfRX13_95) dX13_thrown_1 h1 rfl ?_
  exact ret_I B rfl dX13_thrown_4 (hq)
theorem bX13_no_0 (B : Bd p s m args meth c cX13_no 2 (wsOf yX13_no cX13_no 2 (some .int)) RX13 w (some .int) "no") {v0 : Nat} {v1 : Int32} {post : Int32 → St → Prop} (h1 : kd S v0 = 15) (hq : post 0 (sI S 896 v0 v1)) : K p l e rX13_no s m args below meth c 2 w 0 0 (MQ below (va_Qi post (fun S' t => Hd w S' t.heap) (wA w)) args s 0 0 (wA w)) S 0 [(0, .ref v0), (1, .int v1)] [] := by
  refine k_aload_n B 0 rfl rfl dX13_no_0 ?_
  refine k_iload_n B 1 rfl rfl dX13_no_1 ?_
  refine k_putI (f := 896) B 14 0 rfl (by decide) rfl (by decide) rfl rfl (fun w h => in_of (uw_14 w h)) (in_of qfRX13_95) tyX13 tyX13_ok nmX13 rfl (tyX13_ok 0 (by decide)) dX13_no_2 h1 ?_
  refine k_iconst (v := 0) B (by decide) dX13_no_5 ?_
  exact ret_I B rfl dX13_no_6 (hq)
theorem bX13_isIn_0 (B : Bd p s m args meth c cX13_isIn 3 (wsOf yX13_isIn cX13_isIn 3 (some .boolean)) RX13 w (some .boolean) "isIn") {v0 : Int32} {v1 : Int32} {v2 : Int32} {Q : State → Prop}  (kt : v0 < v1 → K p l e rX13_isIn s m args below meth c 3 w 0 0 Q S 14 [] []) (kf : ¬ v0 < v1 → K p l e rX13_isIn s m args below meth c 3 w 0 0 Q S 5 [(0, .int v0), (2, .int v2)] []) : K p l e rX13_isIn s m args below meth c 3 w 0 0 Q S 0 [(0, .int v0), (1, .int v1), (2, .int v2)] [] := by
  refine k_iload_n B 0 rfl rfl dX13_isIn_0 ?_
  refine k_iload_n B 1 rfl rfl dX13_isIn_1 ?_
  refine k_icmp_lt (tgt := 14) B dX13_isIn_2 (by decide) (fun c => ?_) (fun c => ?_)
  · refine k_sub [] rfl ?_
    exact kt c
  · refine k_sub [0, 2] rfl ?_
    exact kf c
theorem bX13_isIn_5 (B : Bd p s m args meth c cX13_isIn 3 (wsOf yX13_isIn cX13_isIn 3 (some .boolean)) RX13 w (some .boolean) "isIn") {v0 : Int32} {v2 : Int32} {Q : State → Prop}  (kt : v2 < v0 → K p l e rX13_isIn s m args below meth c 3 w 0 0 Q S 14 [] []) (kf : ¬ v2 < v0 → K p l e rX13_isIn s m args below meth c 3 w 0 0 Q S 10 [] []) : K p l e rX13_isIn s m args below meth c 3 w 0 0 Q S 5 [(0, .int v0), (2, .int v2)] [] := by
  refine k_iload_n B 0 rfl rfl dX13_isIn_5 ?_
  refine k_iload_n B 1 rfl rfl dX13_isIn_6 ?_
  refine k_icmp_gt (tgt := 14) B dX13_isIn_7 (by decide) (fun c => ?_) (fun c => ?_)
  · refine k_sub [] rfl ?_
    exact kt c
  · refine k_sub [] rfl ?_
    exact kf c
theorem bX13_isIn_10 (B : Bd p s m args meth c cX13_isIn 3 (wsOf yX13_isIn cX13_isIn 3 (some .boolean)) RX13 w (some .boolean) "isIn") {Q : State → Prop}  (kk : K p l e rX13_isIn s m args below meth c 3 w 0 0 Q S 15 [] [.int 1]) : K p l e rX13_isIn s m args below meth c 3 w 0 0 Q S 10 [] [] := by
  refine k_iconst (v := 1) B (by decide) dX13_isIn_10 ?_
  refine k_goto (tgt := 15) B dX13_isIn_11 (by decide) ?_
  exact kk
theorem bX13_isIn_14 (B : Bd p s m args meth c cX13_isIn 3 (wsOf yX13_isIn cX13_isIn 3 (some .boolean)) RX13 w (some .boolean) "isIn") {Q : State → Prop}  (kk : K p l e rX13_isIn s m args below meth c 3 w 0 0 Q S 15 [] [.int 0]) : K p l e rX13_isIn s m args below meth c 3 w 0 0 Q S 14 [] [] := by
  refine k_iconst (v := 0) B (by decide) dX13_isIn_14 ?_
  exact kk
theorem bX13_isIn_15 (B : Bd p s m args meth c cX13_isIn 3 (wsOf yX13_isIn cX13_isIn 3 (some .boolean)) RX13 w (some .boolean) "isIn") {t0 : Int32} {post : Int32 → St → Prop}  (hv : t0 = 0 ∨ t0 = 1) (hq : post t0 S) : K p l e rX13_isIn s m args below meth c 3 w 0 0 (MQ below (va_Qi post (fun S' t => Hd w S' t.heap) (wA w)) args s 0 0 (wA w)) S 15 [] [.int t0] := by
  exact ret_Z B rfl dX13_isIn_15 (hv) (hq)
theorem bX13_isPlace_0 (B : Bd p s m args meth c cX13_isPlace 2 (wsOf yX13_isPlace cX13_isPlace 2 (some .boolean)) RX13 w (some .boolean) "isPlace") {v0 : Int32} {v1 : Int32} {post : Int32 → St → Prop} {Q : State → Prop} (hc : ConI l yX13_isIn (wsOf yX13_isIn cX13_isIn 3 (some .boolean)) rX13_isIn w S [.int v0, .int 0, .int 60] post) (kk : ∀ (r : Int32) (S' : St), post r S' → K p l e rX13_isPlace s m args below meth c 2 w 0 0 Q S' 7 [(1, .int v1)] [.int r]) : K p l e rX13_isPlace s m args below meth c 2 w 0 0 Q S 0 [(0, .int v0), (1, .int v1)] [] := by
  refine k_iload_n B 0 rfl rfl dX13_isPlace_0 ?_
  refine k_iconst (v := 0) B (by decide) dX13_isPlace_1 ?_
  refine k_bipush (v := 60) B (by decide) dX13_isPlace_2 ?_
  refine callS_I (st := []) B [.int v0, .int 0, .int 60] (hc) (va_cwS 3 B.1.2.2.2.2 (gS qlRX13_98 qsX13_isIn qzRX13 qcX13_isIn) rfl rfl rfl (by decide +kernel) ⟨Nat.le_of_ble_eq_true rfl, Nat.le_of_ble_eq_true rfl⟩) rfl (Nat.le_of_ble_eq_true rfl) rfl dX13_isPlace_4 ⟨Nat.le_of_ble_eq_true rfl, Nat.le_of_ble_eq_true rfl⟩ (fun r S' hp => ?_)
  refine k_sub [1] rfl ?_
  exact kk r S' hp
theorem bX13_isPlace_7 (B : Bd p s m args meth c cX13_isPlace 2 (wsOf yX13_isPlace cX13_isPlace 2 (some .boolean)) RX13 w (some .boolean) "isPlace") {v1 : Int32} {t0 : Int32} {Q : State → Prop}  (kt : t0 = 0 → K p l e rX13_isPlace s m args below meth c 2 w 0 0 Q S 24 [] []) (kf : ¬ t0 = 0 → K p l e rX13_isPlace s m args below meth c 2 w 0 0 Q S 10 [(1, .int v1)] []) : K p l e rX13_isPlace s m args below meth c 2 w 0 0 Q S 7 [(1, .int v1)] [.int t0] := by
  refine k_if_eq (tgt := 24) B dX13_isPlace_7 (by decide) (fun c => ?_) (fun c => ?_)
  · refine k_sub [] rfl ?_
    exact kt c
  · exact kf c
theorem bX13_isPlace_10 (B : Bd p s m args meth c cX13_isPlace 2 (wsOf yX13_isPlace cX13_isPlace 2 (some .boolean)) RX13 w (some .boolean) "isPlace") {v1 : Int32} {post : Int32 → St → Prop} {Q : State → Prop} (hc : ConI l yX13_isIn (wsOf yX13_isIn cX13_isIn 3 (some .boolean)) rX13_isIn w S [.int v1, .int 0, .int 60] post) (kk : ∀ (r : Int32) (S' : St), post r S' → K p l e rX13_isPlace s m args below meth c 2 w 0 0 Q S' 17 [] [.int r]) : K p l e rX13_isPlace s m args below meth c 2 w 0 0 Q S 10 [(1, .int v1)] [] := by
  refine k_iload_n B 0 rfl rfl dX13_isPlace_10 ?_
  refine k_iconst (v := 0) B (by decide) dX13_isPlace_11 ?_
  refine k_bipush (v := 60) B (by decide) dX13_isPlace_12 ?_
  refine callS_I (st := []) B [.int v1, .int 0, .int 60] (hc) (va_cwS 3 B.1.2.2.2.2 (gS qlRX13_98 qsX13_isIn qzRX13 qcX13_isIn) rfl rfl rfl (by decide +kernel) ⟨Nat.le_of_ble_eq_true rfl, Nat.le_of_ble_eq_true rfl⟩) rfl (Nat.le_of_ble_eq_true rfl) rfl dX13_isPlace_14 ⟨Nat.le_of_ble_eq_true rfl, Nat.le_of_ble_eq_true rfl⟩ (fun r S' hp => ?_)
  refine k_sub [] rfl ?_
  exact kk r S' hp
theorem bX13_isPlace_17 (B : Bd p s m args meth c cX13_isPlace 2 (wsOf yX13_isPlace cX13_isPlace 2 (some .boolean)) RX13 w (some .boolean) "isPlace") {t0 : Int32} {Q : State → Prop}  (kt : t0 = 0 → K p l e rX13_isPlace s m args below meth c 2 w 0 0 Q S 24 [] []) (kf : ¬ t0 = 0 → K p l e rX13_isPlace s m args below meth c 2 w 0 0 Q S 20 [] []) : K p l e rX13_isPlace s m args below meth c 2 w 0 0 Q S 17 [] [.int t0] := by
  refine k_if_eq (tgt := 24) B dX13_isPlace_17 (by decide) (fun c => ?_) (fun c => ?_)
  · exact kt c
  · exact kf c
theorem bX13_isPlace_20 (B : Bd p s m args meth c cX13_isPlace 2 (wsOf yX13_isPlace cX13_isPlace 2 (some .boolean)) RX13 w (some .boolean) "isPlace") {Q : State → Prop}  (kk : K p l e rX13_isPlace s m args below meth c 2 w 0 0 Q S 25 [] [.int 1]) : K p l e rX13_isPlace s m args below meth c 2 w 0 0 Q S 20 [] [] := by
  refine k_iconst (v := 1) B (by decide) dX13_isPlace_20 ?_
  refine k_goto (tgt := 25) B dX13_isPlace_21 (by decide) ?_
  exact kk
theorem bX13_isPlace_24 (B : Bd p s m args meth c cX13_isPlace 2 (wsOf yX13_isPlace cX13_isPlace 2 (some .boolean)) RX13 w (some .boolean) "isPlace") {Q : State → Prop}  (kk : K p l e rX13_isPlace s m args below meth c 2 w 0 0 Q S 25 [] [.int 0]) : K p l e rX13_isPlace s m args below meth c 2 w 0 0 Q S 24 [] [] := by
  refine k_iconst (v := 0) B (by decide) dX13_isPlace_24 ?_
  exact kk
theorem bX13_isPlace_25 (B : Bd p s m args meth c cX13_isPlace 2 (wsOf yX13_isPlace cX13_isPlace 2 (some .boolean)) RX13 w (some .boolean) "isPlace") {t0 : Int32} {post : Int32 → St → Prop}  (hv : t0 = 0 ∨ t0 = 1) (hq : post t0 S) : K p l e rX13_isPlace s m args below meth c 2 w 0 0 (MQ below (va_Qi post (fun S' t => Hd w S' t.heap) (wA w)) args s 0 0 (wA w)) S 25 [] [.int t0] := by
  exact ret_Z B rfl dX13_isPlace_25 (hv) (hq)
theorem bX13_apart_0 (B : Bd p s m args meth c cX13_apart 4 (wsOf yX13_apart cX13_apart 4 (some .int)) RX13 w (some .int) "apart") {v0 : Int32} {v1 : Int32} {v2 : Int32} {v3 : Int32} {post : Int32 → St → Prop}  (hq : post ((if 0 ≤ (v0 - v2) then (v0 - v2) else 0 - (v0 - v2)) + (if 0 ≤ (v1 - v3) then (v1 - v3) else 0 - (v1 - v3))) S) : K p l e rX13_apart s m args below meth c 4 w 0 0 (MQ below (va_Qi post (fun S' t => Hd w S' t.heap) (wA w)) args s 0 0 (wA w)) S 0 [(0, .int v0), (1, .int v1), (2, .int v2), (3, .int v3)] [] := by
  refine k_iload_n B 0 rfl rfl dX13_apart_0 ?_
  refine k_iload_n B 2 rfl rfl dX13_apart_1 ?_
  refine k_isub B dX13_apart_2 ?_
  refine k_abs B (in_of qlRX13_102) (in_of qs_abs) (in_of qz_Math) (in_of qc_abs) (Nat.le_of_ble_eq_true rfl) (Nat.le_of_ble_eq_true rfl) (Nat.le_of_ble_eq_true rfl) (Nat.le_of_ble_eq_true rfl) dX13_apart_3 ?_
  refine k_iload_n B 1 rfl rfl dX13_apart_6 ?_
  refine k_iload_n B 3 rfl rfl dX13_apart_7 ?_
  refine k_isub B dX13_apart_8 ?_
  refine k_abs B (in_of qlRX13_102) (in_of qs_abs) (in_of qz_Math) (in_of qc_abs) (Nat.le_of_ble_eq_true rfl) (Nat.le_of_ble_eq_true rfl) (Nat.le_of_ble_eq_true rfl) (Nat.le_of_ble_eq_true rfl) dX13_apart_9 ?_
  refine k_iadd B dX13_apart_12 ?_
  exact ret_I B rfl dX13_apart_13 (hq)
theorem bX13_minutes_0 (B : Bd p s m args meth c cX13_minutes 3 (wsOf yX13_minutes cX13_minutes 3 (some .int)) RX13 w (some .int) "minutes") {v0 : Nat} {v1 : Int32} {v2 : Int32} {x1 : Nat} {post : Int32 → St → Prop} (h1 : kd S v0 = 15) (h2 : gP S 897 v0 = some x1) (h3 : kd S x1 = 21) (h4 : vp_in ((v2 / 60) - (v2 / 60) / 24 * 24) (ln S x1)) (hq : post (((v1 * ((rI S x1) ((v2 / 60) - (v2 / 60) / 24 * 24).toNatClampNeg)) + 9) / 10) S) : K p l e rX13_minutes s m args below meth c 3 w 0 0 (MQ below (va_Qi post (fun S' t => Hd w S' t.heap) (wA w)) args s 0 0 (wA w)) S 0 [(0, .ref v0), (1, .int v1), (2, .int v2)] [] := by
  refine k_iload_n B 1 rfl rfl dX13_minutes_0 ?_
  refine k_aload_n B 0 rfl rfl dX13_minutes_1 ?_
  refine k_getP (f := 897) (r := gP S 897 v0) B 14 1 rfl (by decide) rfl (by decide) rfl rfl (fun w h => in_of (uw_14 w h)) (in_of qfRX13_7) dX13_minutes_2 h1 rfl ?_
  rw [h2]; change K _ _ _ _ _ _ _ _ _ _ _ _ _ _ _ _ _ _ (.ref x1 :: _)
  refine k_iload_n B 2 rfl rfl dX13_minutes_5 ?_
  refine k_bipush (v := 60) B (by decide) dX13_minutes_6 ?_
  refine k_idiv B (by decide) dX13_minutes_8 ?_
  refine k_bipush (v := 24) B (by decide) dX13_minutes_9 ?_
  refine k_irem B (by decide) dX13_minutes_11 ?_
  refine k_iald (v := (rI S x1) ((v2 / 60) - (v2 / 60) / 24 * 24).toNatClampNeg) B dX13_minutes_12 h3 h4 rfl ?_
  refine k_imul B dX13_minutes_13 ?_
  refine k_bipush (v := 9) B (by decide) dX13_minutes_14 ?_
  refine k_iadd B dX13_minutes_16 ?_
  refine k_bipush (v := 10) B (by decide) dX13_minutes_17 ?_
  refine k_idiv B (by decide) dX13_minutes_19 ?_
  exact ret_I B rfl dX13_minutes_20 (hq)
theorem bX13_isHomeNumber_0 (B : Bd p s m args meth c cX13_isHomeNumber 2 (wsOf yX13_isHomeNumber cX13_isHomeNumber 2 (some .boolean)) RX13 w (some .boolean) "isHomeNumber") {v0 : Nat} {v1 : Int32} {post : Int32 → St → Prop} {Q : State → Prop} (h1 : kd S v0 = 15) (hc : ConI l yX13_isIn (wsOf yX13_isIn cX13_isIn 3 (some .boolean)) rX13_isIn w S [.int v1, .int 0, .int ((gI S 900 v0) - 1)] post) (kk : ∀ (r : Int32) (S' : St), post r S' → K p l e rX13_isHomeNumber s m args below meth c 2 w 0 0 Q S' 11 [] [.int r]) : K p l e rX13_isHomeNumber s m args below meth c 2 w 0 0 Q S 0 [(0, .ref v0), (1, .int v1)] [] := by
  refine k_iload_n B 1 rfl rfl dX13_isHomeNumber_0 ?_
  refine k_iconst (v := 0) B (by decide) dX13_isHomeNumber_1 ?_
  refine k_aload_n B 0 rfl rfl dX13_isHomeNumber_2 ?_
  refine k_getI (f := 900) (v := gI S 900 v0) B 14 4 rfl (by decide) rfl (by decide) rfl rfl (fun w h => in_of (uw_14 w h)) (in_of qfRX13_108) dX13_isHomeNumber_3 h1 rfl ?_
  refine k_iconst (v := 1) B (by decide) dX13_isHomeNumber_6 ?_
  refine k_isub B dX13_isHomeNumber_7 ?_
  refine callS_I (st := []) B [.int v1, .int 0, .int ((gI S 900 v0) - 1)] (hc) (va_cwS 3 B.1.2.2.2.2 (gS qlRX13_98 qsX13_isIn qzRX13 qcX13_isIn) rfl rfl rfl (by decide +kernel) ⟨Nat.le_of_ble_eq_true rfl, Nat.le_of_ble_eq_true rfl⟩) rfl (Nat.le_of_ble_eq_true rfl) rfl dX13_isHomeNumber_8 ⟨Nat.le_of_ble_eq_true rfl, Nat.le_of_ble_eq_true rfl⟩ (fun r S' hp => ?_)
  refine k_sub [] rfl ?_
  exact kk r S' hp
theorem bX13_isHomeNumber_11 (B : Bd p s m args meth c cX13_isHomeNumber 2 (wsOf yX13_isHomeNumber cX13_isHomeNumber 2 (some .boolean)) RX13 w (some .boolean) "isHomeNumber") {t0 : Int32} {post : Int32 → St → Prop}  (hv : t0 = 0 ∨ t0 = 1) (hq : post t0 S) : K p l e rX13_isHomeNumber s m args below meth c 2 w 0 0 (MQ below (va_Qi post (fun S' t => Hd w S' t.heap) (wA w)) args s 0 0 (wA w)) S 11 [] [.int t0] := by
  exact ret_Z B rfl dX13_isHomeNumber_11 (hv) (hq)
theorem bX13_isLocker_0 (B : Bd p s m args meth c cX13_isLocker 2 (wsOf yX13_isLocker cX13_isLocker 2 (some .boolean)) RX13 w (some .boolean) "isLocker") {v0 : Nat} {v1 : Int32} {post : Int32 → St → Prop} {Q : State → Prop} (h1 : kd S v0 = 15) (hc : ConI l yX13_isIn (wsOf yX13_isIn cX13_isIn 3 (some .boolean)) rX13_isIn w S [.int v1, .int 0, .int ((gI S 906 v0) - 1)] post) (kk : ∀ (r : Int32) (S' : St), post r S' → K p l e rX13_isLocker s m args below meth c 2 w 0 0 Q S' 11 [] [.int r]) : K p l e rX13_isLocker s m args below meth c 2 w 0 0 Q S 0 [(0, .ref v0), (1, .int v1)] [] := by
  refine k_iload_n B 1 rfl rfl dX13_isLocker_0 ?_
  refine k_iconst (v := 0) B (by decide) dX13_isLocker_1 ?_
  refine k_aload_n B 0 rfl rfl dX13_isLocker_2 ?_
  refine k_getI (f := 906) (v := gI S 906 v0) B 14 10 rfl (by decide) rfl (by decide) rfl rfl (fun w h => in_of (uw_14 w h)) (in_of qfRX13_111) dX13_isLocker_3 h1 rfl ?_
  refine k_iconst (v := 1) B (by decide) dX13_isLocker_6 ?_
  refine k_isub B dX13_isLocker_7 ?_
  refine callS_I (st := []) B [.int v1, .int 0, .int ((gI S 906 v0) - 1)] (hc) (va_cwS 3 B.1.2.2.2.2 (gS qlRX13_98 qsX13_isIn qzRX13 qcX13_isIn) rfl rfl rfl (by decide +kernel) ⟨Nat.le_of_ble_eq_true rfl, Nat.le_of_ble_eq_true rfl⟩) rfl (Nat.le_of_ble_eq_true rfl) rfl dX13_isLocker_8 ⟨Nat.le_of_ble_eq_true rfl, Nat.le_of_ble_eq_true rfl⟩ (fun r S' hp => ?_)
  refine k_sub [] rfl ?_
  exact kk r S' hp
theorem bX13_isLocker_11 (B : Bd p s m args meth c cX13_isLocker 2 (wsOf yX13_isLocker cX13_isLocker 2 (some .boolean)) RX13 w (some .boolean) "isLocker") {t0 : Int32} {post : Int32 → St → Prop}  (hv : t0 = 0 ∨ t0 = 1) (hq : post t0 S) : K p l e rX13_isLocker s m args below meth c 2 w 0 0 (MQ below (va_Qi post (fun S' t => Hd w S' t.heap) (wA w)) args s 0 0 (wA w)) S 11 [] [.int t0] := by
  exact ret_Z B rfl dX13_isLocker_11 (hv) (hq)
theorem bX13_isVan_0 (B : Bd p s m args meth c cX13_isVan 2 (wsOf yX13_isVan cX13_isVan 2 (some .boolean)) RX13 w (some .boolean) "isVan") {v0 : Nat} {v1 : Int32} {post : Int32 → St → Prop} {Q : State → Prop} (h1 : kd S v0 = 15) (hc : ConI l yX13_isIn (wsOf yX13_isIn cX13_isIn 3 (some .boolean)) rX13_isIn w S [.int v1, .int 0, .int ((gI S 909 v0) - 1)] post) (kk : ∀ (r : Int32) (S' : St), post r S' → K p l e rX13_isVan s m args below meth c 2 w 0 0 Q S' 11 [] [.int r]) : K p l e rX13_isVan s m args below meth c 2 w 0 0 Q S 0 [(0, .ref v0), (1, .int v1)] [] := by
  refine k_iload_n B 1 rfl rfl dX13_isVan_0 ?_
  refine k_iconst (v := 0) B (by decide) dX13_isVan_1 ?_
  refine k_aload_n B 0 rfl rfl dX13_isVan_2 ?_
  refine k_getI (f := 909) (v := gI S 909 v0) B 14 13 rfl (by decide) rfl (by decide) rfl rfl (fun w h => in_of (uw_14 w h)) (in_of qfRX13_114) dX13_isVan_3 h1 rfl ?_
  refine k_iconst (v := 1) B (by decide) dX13_isVan_6 ?_
  refine k_isub B dX13_isVan_7 ?_
  refine callS_I (st := []) B [.int v1, .int 0, .int ((gI S 909 v0) - 1)] (hc) (va_cwS 3 B.1.2.2.2.2 (gS qlRX13_98 qsX13_isIn qzRX13 qcX13_isIn) rfl rfl rfl (by decide +kernel) ⟨Nat.le_of_ble_eq_true rfl, Nat.le_of_ble_eq_true rfl⟩) rfl (Nat.le_of_ble_eq_true rfl) rfl dX13_isVan_8 ⟨Nat.le_of_ble_eq_true rfl, Nat.le_of_ble_eq_true rfl⟩ (fun r S' hp => ?_)
  refine k_sub [] rfl ?_
  exact kk r S' hp
theorem bX13_isVan_11 (B : Bd p s m args meth c cX13_isVan 2 (wsOf yX13_isVan cX13_isVan 2 (some .boolean)) RX13 w (some .boolean) "isVan") {t0 : Int32} {post : Int32 → St → Prop}  (hv : t0 = 0 ∨ t0 = 1) (hq : post t0 S) : K p l e rX13_isVan s m args below meth c 2 w 0 0 (MQ below (va_Qi post (fun S' t => Hd w S' t.heap) (wA w)) args s 0 0 (wA w)) S 11 [] [.int t0] := by
  exact ret_Z B rfl dX13_isVan_11 (hv) (hq)
theorem bX13_isParcel_0 (B : Bd p s m args meth c cX13_isParcel 2 (wsOf yX13_isParcel cX13_isParcel 2 (some .boolean)) RX13 w (some .boolean) "isParcel") {v0 : Nat} {v1 : Int32} {post : Int32 → St → Prop} {Q : State → Prop} (h1 : kd S v0 = 15) (hc : ConI l yX13_isIn (wsOf yX13_isIn cX13_isIn 3 (some .boolean)) rX13_isIn w S [.int v1, .int 0, .int ((gI S 913 v0) - 1)] post) (kk : ∀ (r : Int32) (S' : St), post r S' → K p l e rX13_isParcel s m args below meth c 2 w 0 0 Q S' 11 [] [.int r]) : K p l e rX13_isParcel s m args below meth c 2 w 0 0 Q S 0 [(0, .ref v0), (1, .int v1)] [] := by
  refine k_iload_n B 1 rfl rfl dX13_isParcel_0 ?_
  refine k_iconst (v := 0) B (by decide) dX13_isParcel_1 ?_
  refine k_aload_n B 0 rfl rfl dX13_isParcel_2 ?_
  refine k_getI (f := 913) (v := gI S 913 v0) B 14 17 rfl (by decide) rfl (by decide) rfl rfl (fun w h => in_of (uw_14 w h)) (in_of qfRX13_117) dX13_isParcel_3 h1 rfl ?_
  refine k_iconst (v := 1) B (by decide) dX13_isParcel_6 ?_
  refine k_isub B dX13_isParcel_7 ?_
  refine callS_I (st := []) B [.int v1, .int 0, .int ((gI S 913 v0) - 1)] (hc) (va_cwS 3 B.1.2.2.2.2 (gS qlRX13_98 qsX13_isIn qzRX13 qcX13_isIn) rfl rfl rfl (by decide +kernel) ⟨Nat.le_of_ble_eq_true rfl, Nat.le_of_ble_eq_true rfl⟩) rfl (Nat.le_of_ble_eq_true rfl) rfl dX13_isParcel_8 ⟨Nat.le_of_ble_eq_true rfl, Nat.le_of_ble_eq_true rfl⟩ (fun r S' hp => ?_)
  refine k_sub [] rfl ?_
  exact kk r S' hp
theorem bX13_isParcel_11 (B : Bd p s m args meth c cX13_isParcel 2 (wsOf yX13_isParcel cX13_isParcel 2 (some .boolean)) RX13 w (some .boolean) "isParcel") {t0 : Int32} {post : Int32 → St → Prop}  (hv : t0 = 0 ∨ t0 = 1) (hq : post t0 S) : K p l e rX13_isParcel s m args below meth c 2 w 0 0 (MQ below (va_Qi post (fun S' t => Hd w S' t.heap) (wA w)) args s 0 0 (wA w)) S 11 [] [.int t0] := by
  exact ret_Z B rfl dX13_isParcel_11 (hv) (hq)
theorem bX13_setRoads_0 (B : Bd p s m args meth c cX13_setRoads 4 (wsOf yX13_setRoads cX13_setRoads 4 (some .int)) RX13 w (some .int) "setRoads") {v0 : Nat} {v1 : Int32} {v2 : Int32} {post : Int32 → St → Prop} {Q : State → Prop} (h1 : kd S v0 = 15) (hc : ConI l yX13_isIn (wsOf yX13_isIn cX13_isIn 3 (some .boolean)) rX13_isIn w (sI S 896 v0 0) [.int v1, .int 0, .int 23] post) (kk : ∀ (r : Int32) (S' : St), post r S' → K p l e rX13_setRoads s m args below meth c 4 w 0 0 Q S' 12 [(0, .ref v0), (1, .int v1), (2, .int v2)] [.int r]) : K p l e rX13_setRoads s m args below meth c 4 w 0 0 Q S 0 [(0, .ref v0), (1, .int v1), (2, .int v2)] [] := by
  refine k_aload_n B 0 rfl rfl dX13_setRoads_0 ?_
  refine k_iconst (v := 0) B (by decide) dX13_setRoads_1 ?_
  refine k_putI (f := 896) B 14 0 rfl (by decide) rfl (by decide) rfl rfl (fun w h => in_of (uw_14 w h)) (in_of qfRX13_95) tyX13 tyX13_ok nmX13 rfl (tyX13_ok 0 (by decide)) dX13_setRoads_2 h1 ?_
  refine k_iload_n B 1 rfl rfl dX13_setRoads_5 ?_
  refine k_iconst (v := 0) B (by decide) dX13_setRoads_6 ?_
  refine k_bipush (v := 23) B (by decide) dX13_setRoads_7 ?_
  refine callS_I (st := []) B [.int v1, .int 0, .int 23] (hc) (va_cwS 3 B.1.2.2.2.2 (gS qlRX13_98 qsX13_isIn qzRX13 qcX13_isIn) rfl rfl rfl (by decide +kernel) ⟨Nat.le_of_ble_eq_true rfl, Nat.le_of_ble_eq_true rfl⟩) rfl (Nat.le_of_ble_eq_true rfl) rfl dX13_setRoads_9 ⟨Nat.le_of_ble_eq_true rfl, Nat.le_of_ble_eq_true rfl⟩ (fun r S' hp => ?_)
  exact kk r S' hp
theorem bX13_setRoads_12 (B : Bd p s m args meth c cX13_setRoads 4 (wsOf yX13_setRoads cX13_setRoads 4 (some .int)) RX13 w (some .int) "setRoads") {v0 : Nat} {v1 : Int32} {v2 : Int32} {t0 : Int32} {Q : State → Prop}  (kt : ¬ t0 = 0 → K p l e rX13_setRoads s m args below meth c 4 w 0 0 Q S 21 [(0, .ref v0), (1, .int v1), (2, .int v2)] []) (kf : t0 = 0 → K p l e rX13_setRoads s m args below meth c 4 w 0 0 Q S 15 [(0, .ref v0)] []) : K p l e rX13_setRoads s m args below meth c 4 w 0 0 Q S 12 [(0, .ref v0), (1, .int v1), (2, .int v2)] [.int t0] := by
  refine k_if_ne (tgt := 21) B dX13_setRoads_12 (by decide) (fun c => ?_) (fun c => ?_)
  · exact kt c
  · refine k_sub [0] rfl ?_
    exact kf c
theorem bX13_setRoads_15 (B : Bd p s m args meth c cX13_setRoads 4 (wsOf yX13_setRoads cX13_setRoads 4 (some .int)) RX13 w (some .int) "setRoads") {v0 : Nat} {post : Int32 → St → Prop} {Q : State → Prop} (hc : ConI l yX13_no (wsOf yX13_no cX13_no 2 (some .int)) rX13_no w S [.ref v0, .int 1] post) (h1 : kd S v0 = 15) (kk : ∀ (r : Int32) (S' : St), post r S' → K p l e rX13_setRoads s m args below meth c 4 w 0 0 Q S' 20 [] [.int r]) : K p l e rX13_setRoads s m args below meth c 4 w 0 0 Q S 15 [(0, .ref v0)] [] := by
  refine k_aload_n B 0 rfl rfl dX13_setRoads_15 ?_
  refine k_iconst (v := 1) B (by decide) dX13_setRoads_16 ?_
  refine callV_I (st := []) B [.int 1] (hc) (cwV 1 B.1.2.2.2.2 (gV qlRX13_120 qiX13_no qeX13_no qzRX13 qcX13_no) rfl rfl rfl (by decide +kernel) ⟨Nat.le_of_ble_eq_true rfl, Nat.le_of_ble_eq_true rfl⟩) rfl rfl (by decide) h1 (Nat.le_of_ble_eq_true rfl) rfl dX13_setRoads_17 ⟨Nat.le_of_ble_eq_true rfl, Nat.le_of_ble_eq_true rfl⟩ (fun r S' hp => ?_)
  refine k_sub [] rfl ?_
  exact kk r S' hp
theorem bX13_setRoads_20 (B : Bd p s m args meth c cX13_setRoads 4 (wsOf yX13_setRoads cX13_setRoads 4 (some .int)) RX13 w (some .int) "setRoads") {t0 : Int32} {post : Int32 → St → Prop}  (hq : post t0 S) : K p l e rX13_setRoads s m args below meth c 4 w 0 0 (MQ below (va_Qi post (fun S' t => Hd w S' t.heap) (wA w)) args s 0 0 (wA w)) S 20 [] [.int t0] := by
  exact ret_I B rfl dX13_setRoads_20 (hq)
theorem bX13_setRoads_21 (B : Bd p s m args meth c cX13_setRoads 4 (wsOf yX13_setRoads cX13_setRoads 4 (some .int)) RX13 w (some .int) "setRoads") {v0 : Nat} {v1 : Int32} {v2 : Int32} {post : Int32 → St → Prop} {Q : State → Prop} (hc : ConI l yX13_isIn (wsOf yX13_isIn cX13_isIn 3 (some .boolean)) rX13_isIn w S [.int v2, .int 5, .int 30] post) (kk : ∀ (r : Int32) (S' : St), post r S' → K p l e rX13_setRoads s m args below meth c 4 w 0 0 Q S' 28 [(0, .ref v0), (1, .int v1), (2, .int v2)] [.int r]) : K p l e rX13_setRoads s m args below meth c 4 w 0 0 Q S 21 [(0, .ref v0), (1, .int v1), (2, .int v2)] [] := by
  refine k_iload_n B 2 rfl rfl dX13_setRoads_21 ?_
  refine k_iconst (v := 5) B (by decide) dX13_setRoads_22 ?_
  refine k_bipush (v := 30) B (by decide) dX13_setRoads_23 ?_
  refine callS_I (st := []) B [.int v2, .int 5, .int 30] (hc) (va_cwS 3 B.1.2.2.2.2 (gS qlRX13_98 qsX13_isIn qzRX13 qcX13_isIn) rfl rfl rfl (by decide +kernel) ⟨Nat.le_of_ble_eq_true rfl, Nat.le_of_ble_eq_true rfl⟩) rfl (Nat.le_of_ble_eq_true rfl) rfl dX13_setRoads_25 ⟨Nat.le_of_ble_eq_true rfl, Nat.le_of_ble_eq_true rfl⟩ (fun r S' hp => ?_)
  exact kk r S' hp
theorem bX13_setRoads_28 (B : Bd p s m args meth c cX13_setRoads 4 (wsOf yX13_setRoads cX13_setRoads 4 (some .int)) RX13 w (some .int) "setRoads") {v0 : Nat} {v1 : Int32} {v2 : Int32} {t0 : Int32} {Q : State → Prop}  (kt : ¬ t0 = 0 → K p l e rX13_setRoads s m args below meth c 4 w 0 0 Q S 37 [(0, .ref v0), (1, .int v1), (2, .int v2)] []) (kf : t0 = 0 → K p l e rX13_setRoads s m args below meth c 4 w 0 0 Q S 31 [(0, .ref v0)] []) : K p l e rX13_setRoads s m args below meth c 4 w 0 0 Q S 28 [(0, .ref v0), (1, .int v1), (2, .int v2)] [.int t0] := by
  refine k_if_ne (tgt := 37) B dX13_setRoads_28 (by decide) (fun c => ?_) (fun c => ?_)
  · exact kt c
  · refine k_sub [0] rfl ?_
    exact kf c
theorem bX13_setRoads_31 (B : Bd p s m args meth c cX13_setRoads 4 (wsOf yX13_setRoads cX13_setRoads 4 (some .int)) RX13 w (some .int) "setRoads") {v0 : Nat} {post : Int32 → St → Prop} {Q : State → Prop} (hc : ConI l yX13_no (wsOf yX13_no cX13_no 2 (some .int)) rX13_no w S [.ref v0, .int 2] post) (h1 : kd S v0 = 15) (kk : ∀ (r : Int32) (S' : St), post r S' → K p l e rX13_setRoads s m args below meth c 4 w 0 0 Q S' 36 [] [.int r]) : K p l e rX13_setRoads s m args below meth c 4 w 0 0 Q S 31 [(0, .ref v0)] [] := by
  refine k_aload_n B 0 rfl rfl dX13_setRoads_31 ?_
  refine k_iconst (v := 2) B (by decide) dX13_setRoads_32 ?_
  refine callV_I (st := []) B [.int 2] (hc) (cwV 1 B.1.2.2.2.2 (gV qlRX13_120 qiX13_no qeX13_no qzRX13 qcX13_no) rfl rfl rfl (by decide +kernel) ⟨Nat.le_of_ble_eq_true rfl, Nat.le_of_ble_eq_true rfl⟩) rfl rfl (by decide) h1 (Nat.le_of_ble_eq_true rfl) rfl dX13_setRoads_33 ⟨Nat.le_of_ble_eq_true rfl, Nat.le_of_ble_eq_true rfl⟩ (fun r S' hp => ?_)
  refine k_sub [] rfl ?_
  exact kk r S' hp
theorem bX13_setRoads_36 (B : Bd p s m args meth c cX13_setRoads 4 (wsOf yX13_setRoads cX13_setRoads 4 (some .int)) RX13 w (some .int) "setRoads") {t0 : Int32} {post : Int32 → St → Prop}  (hq : post t0 S) : K p l e rX13_setRoads s m args below meth c 4 w 0 0 (MQ below (va_Qi post (fun S' t => Hd w S' t.heap) (wA w)) args s 0 0 (wA w)) S 36 [] [.int t0] := by
  exact ret_I B rfl dX13_setRoads_36 (hq)
theorem bX13_setRoads_37 (B : Bd p s m args meth c cX13_setRoads 4 (wsOf yX13_setRoads cX13_setRoads 4 (some .int)) RX13 w (some .int) "setRoads") {v0 : Nat} {v1 : Int32} {v2 : Int32} {x1 : Nat} {x2 : Nat} {Q : State → Prop} (h1 : kd S v0 = 15) (h2 : gP S 897 v0 = some x1) (h3 : kd S x1 = 21) (h4 : vp_in v1 (ln S x1)) (h5 : gP S 897 v0 = some x2) (h6 : kd S x2 = 21) (h7 : vp_in v1 (ln S x2)) (kk : K p l e rX13_setRoads s m args below meth c 4 w 0 0 Q (sRI S x2 (va_up (rI S x2) v1.toNatClampNeg v2)) 51 [(3, .int ((rI S x1) v1.toNatClampNeg))] []) : K p l e rX13_setRoads s m args below meth c 4 w 0 0 Q S 37 [(0, .ref v0), (1, .int v1), (2, .int v2)] [] := by
  refine k_aload_n B 0 rfl rfl dX13_setRoads_37 ?_
  refine k_getP (f := 897) (r := gP S 897 v0) B 14 1 rfl (by decide) rfl (by decide) rfl rfl (fun w h => in_of (uw_14 w h)) (in_of qfRX13_7) dX13_setRoads_38 h1 rfl ?_
  rw [h2]; change K _ _ _ _ _ _ _ _ _ _ _ _ _ _ _ _ _ _ (.ref x1 :: _)
  refine k_iload_n B 1 rfl rfl dX13_setRoads_41 ?_
  refine k_iald (v := (rI S x1) v1.toNatClampNeg) B dX13_setRoads_42 h3 h4 rfl ?_
  refine k_istore_n (lst' := [(3, .int ((rI S x1) v1.toNatClampNeg)), (0, .ref v0), (1, .int v1), (2, .int v2)]) B rfl (by decide) rfl dX13_setRoads_43 ?_
  refine k_aload_n B 1 rfl rfl dX13_setRoads_44 ?_
  refine k_getP (f := 897) (r := gP S 897 v0) B 14 1 rfl (by decide) rfl (by decide) rfl rfl (fun w h => in_of (uw_14 w h)) (in_of qfRX13_7) dX13_setRoads_45 h1 rfl ?_
  rw [h5]; change K _ _ _ _ _ _ _ _ _ _ _ _ _ _ _ _ _ _ (.ref x2 :: _)
  refine k_iload_n B 2 rfl rfl dX13_setRoads_48 ?_
  refine k_iload_n B 3 rfl rfl dX13_setRoads_49 ?_
  refine k_iast (g := rI S x2) (S' := sRI S x2 (va_up (rI S x2) v1.toNatClampNeg v2)) B dX13_setRoads_50 h6 h7 rfl rfl ?_
  refine k_sub [0] rfl ?_
  exact kk
theorem bX13_setRoads_51 (B : Bd p s m args meth c cX13_setRoads 4 (wsOf yX13_setRoads cX13_setRoads 4 (some .int)) RX13 w (some .int) "setRoads") {v3 : Int32} {post : Int32 → St → Prop}  (hq : post v3 S) : K p l e rX13_setRoads s m args below meth c 4 w 0 0 (MQ below (va_Qi post (fun S' t => Hd w S' t.heap) (wA w)) args s 0 0 (wA w)) S 51 [(3, .int v3)] [] := by
  refine k_iload_n B 0 rfl rfl dX13_setRoads_51 ?_
  exact ret_I B rfl dX13_setRoads_52 (hq)
theorem bX13_setDepot_0 (B : Bd p s m args meth c cX13_setDepot 4 (wsOf yX13_setDepot cX13_setDepot 4 (some .int)) RX13 w (some .int) "setDepot") {v0 : Nat} {v1 : Int32} {v2 : Int32} {post : Int32 → St → Prop} {Q : State → Prop} (h1 : kd S v0 = 15) (hc : ConI l yX13_isPlace (wsOf yX13_isPlace cX13_isPlace 2 (some .boolean)) rX13_isPlace w (sI S 896 v0 0) [.int v1, .int v2] post) (kk : ∀ (r : Int32) (S' : St), post r S' → K p l e rX13_setDepot s m args below meth c 4 w 0 0 Q S' 10 [(0, .ref v0), (1, .int v1), (2, .int v2)] [.int r]) : K p l e rX13_setDepot s m args below meth c 4 w 0 0 Q S 0 [(0, .ref v0), (1, .int v1), (2, .int v2)] [] := by
  refine k_aload_n B 0 rfl rfl dX13_setDepot_0 ?_
  refine k_iconst (v := 0) B (by decide) dX13_setDepot_1 ?_
  refine k_putI (f := 896) B 14 0 rfl (by decide) rfl (by decide) rfl rfl (fun w h => in_of (uw_14 w h)) (in_of qfRX13_95) tyX13 tyX13_ok nmX13 rfl (tyX13_ok 0 (by decide)) dX13_setDepot_2 h1 ?_
  refine k_iload_n B 1 rfl rfl dX13_setDepot_5 ?_
  refine k_iload_n B 2 rfl rfl dX13_setDepot_6 ?_
  refine callS_I (st := []) B [.int v1, .int v2] (hc) (va_cwS 2 B.1.2.2.2.2 (gS qlRX13_123 qsX13_isPlace qzRX13 qcX13_isPlace) rfl rfl rfl (by decide +kernel) ⟨Nat.le_of_ble_eq_true rfl, Nat.le_of_ble_eq_true rfl⟩) rfl (Nat.le_of_ble_eq_true rfl) rfl dX13_setDepot_7 ⟨Nat.le_of_ble_eq_true rfl, Nat.le_of_ble_eq_true rfl⟩ (fun r S' hp => ?_)
  exact kk r S' hp
theorem bX13_setDepot_10 (B : Bd p s m args meth c cX13_setDepot 4 (wsOf yX13_setDepot cX13_setDepot 4 (some .int)) RX13 w (some .int) "setDepot") {v0 : Nat} {v1 : Int32} {v2 : Int32} {t0 : Int32} {Q : State → Prop}  (kt : ¬ t0 = 0 → K p l e rX13_setDepot s m args below meth c 4 w 0 0 Q S 19 [(0, .ref v0), (1, .int v1), (2, .int v2)] []) (kf : t0 = 0 → K p l e rX13_setDepot s m args below meth c 4 w 0 0 Q S 13 [(0, .ref v0)] []) : K p l e rX13_setDepot s m args below meth c 4 w 0 0 Q S 10 [(0, .ref v0), (1, .int v1), (2, .int v2)] [.int t0] := by
  refine k_if_ne (tgt := 19) B dX13_setDepot_10 (by decide) (fun c => ?_) (fun c => ?_)
  · exact kt c
  · refine k_sub [0] rfl ?_
    exact kf c
theorem bX13_setDepot_13 (B : Bd p s m args meth c cX13_setDepot 4 (wsOf yX13_setDepot cX13_setDepot 4 (some .int)) RX13 w (some .int) "setDepot") {v0 : Nat} {post : Int32 → St → Prop} {Q : State → Prop} (hc : ConI l yX13_no (wsOf yX13_no cX13_no 2 (some .int)) rX13_no w S [.ref v0, .int 1] post) (h1 : kd S v0 = 15) (kk : ∀ (r : Int32) (S' : St), post r S' → K p l e rX13_setDepot s m args below meth c 4 w 0 0 Q S' 18 [] [.int r]) : K p l e rX13_setDepot s m args below meth c 4 w 0 0 Q S 13 [(0, .ref v0)] [] := by
  refine k_aload_n B 0 rfl rfl dX13_setDepot_13 ?_
  refine k_iconst (v := 1) B (by decide) dX13_setDepot_14 ?_
  refine callV_I (st := []) B [.int 1] (hc) (cwV 1 B.1.2.2.2.2 (gV qlRX13_120 qiX13_no qeX13_no qzRX13 qcX13_no) rfl rfl rfl (by decide +kernel) ⟨Nat.le_of_ble_eq_true rfl, Nat.le_of_ble_eq_true rfl⟩) rfl rfl (by decide) h1 (Nat.le_of_ble_eq_true rfl) rfl dX13_setDepot_15 ⟨Nat.le_of_ble_eq_true rfl, Nat.le_of_ble_eq_true rfl⟩ (fun r S' hp => ?_)
  refine k_sub [] rfl ?_
  exact kk r S' hp
theorem bX13_setDepot_18 (B : Bd p s m args meth c cX13_setDepot 4 (wsOf yX13_setDepot cX13_setDepot 4 (some .int)) RX13 w (some .int) "setDepot") {t0 : Int32} {post : Int32 → St → Prop}  (hq : post t0 S) : K p l e rX13_setDepot s m args below meth c 4 w 0 0 (MQ below (va_Qi post (fun S' t => Hd w S' t.heap) (wA w)) args s 0 0 (wA w)) S 18 [] [.int t0] := by
  exact ret_I B rfl dX13_setDepot_18 (hq)
theorem bX13_setDepot_19 (B : Bd p s m args meth c cX13_setDepot 4 (wsOf yX13_setDepot cX13_setDepot 4 (some .int)) RX13 w (some .int) "setDepot") {v0 : Nat} {v1 : Int32} {v2 : Int32} {post : Int32 → St → Prop} (h1 : kd S v0 = 15) (hq : post ((100 * (gI S 898 v0)) + (gI S 899 v0)) (sI (sI S 898 v0 v1) 899 v0 v2)) : K p l e rX13_setDepot s m args below meth c 4 w 0 0 (MQ below (va_Qi post (fun S' t => Hd w S' t.heap) (wA w)) args s 0 0 (wA w)) S 19 [(0, .ref v0), (1, .int v1), (2, .int v2)] [] := by
  refine k_bipush (v := 100) B (by decide) dX13_setDepot_19 ?_
  refine k_aload_n B 0 rfl rfl dX13_setDepot_21 ?_
  refine k_getI (f := 898) (v := gI S 898 v0) B 14 2 rfl (by decide) rfl (by decide) rfl rfl (fun w h => in_of (uw_14 w h)) (in_of qfRX13_13) dX13_setDepot_22 h1 rfl ?_
  refine k_imul B dX13_setDepot_25 ?_
  refine k_aload_n B 0 rfl rfl dX13_setDepot_26 ?_
  refine k_getI (f := 899) (v := gI S 899 v0) B 14 3 rfl (by decide) rfl (by decide) rfl rfl (fun w h => in_of (uw_14 w h)) (in_of qfRX13_17) dX13_setDepot_27 h1 rfl ?_
  refine k_iadd B dX13_setDepot_30 ?_
  refine k_istore_n (lst' := [(3, .int ((100 * (gI S 898 v0)) + (gI S 899 v0))), (0, .ref v0), (1, .int v1), (2, .int v2)]) B rfl (by decide) rfl dX13_setDepot_31 ?_
  refine k_aload_n B 1 rfl rfl dX13_setDepot_32 ?_
  refine k_iload_n B 2 rfl rfl dX13_setDepot_33 ?_
  refine k_putI (f := 898) B 14 2 rfl (by decide) rfl (by decide) rfl rfl (fun w h => in_of (uw_14 w h)) (in_of qfRX13_13) tyX13 tyX13_ok nmX13 rfl (tyX13_ok 2 (by decide)) dX13_setDepot_34 h1 ?_
  refine k_aload_n B 1 rfl rfl dX13_setDepot_37 ?_
  refine k_iload_n B 3 rfl rfl dX13_setDepot_38 ?_
  refine k_putI (f := 899) B 14 3 rfl (by decide) rfl (by decide) rfl rfl (fun w h => in_of (uw_14 w h)) (in_of qfRX13_17) tyX13 tyX13_ok nmX13 rfl (tyX13_ok 3 (by decide)) dX13_setDepot_39 h1 ?_
  refine k_iload_n B 0 rfl rfl dX13_setDepot_42 ?_
  exact ret_I B rfl dX13_setDepot_43 (hq)
theorem bX13_addHome_0 (B : Bd p s m args meth c cX13_addHome 4 (wsOf yX13_addHome cX13_addHome 4 (some .int)) RX13 w (some .int) "addHome") {v0 : Nat} {v1 : Int32} {v2 : Int32} {v3 : Int32} {post : Int32 → St → Prop} {Q : State → Prop} (h1 : kd S v0 = 15) (hc : ConI l yX13_isPlace (wsOf yX13_isPlace cX13_isPlace 2 (some .boolean)) rX13_isPlace w (sI S 896 v0 0) [.int v1, .int v2] post) (kk : ∀ (r : Int32) (S' : St), post r S' → K p l e rX13_addHome s m args below meth c 4 w 0 0 Q S' 10 [(0, .ref v0), (1, .int v1), (2, .int v2), (3, .int v3)] [.int r]) : K p l e rX13_addHome s m args below meth c 4 w 0 0 Q S 0 [(0, .ref v0), (1, .int v1), (2, .int v2), (3, .int v3)] [] := by
  refine k_aload_n B 0 rfl rfl dX13_addHome_0 ?_
  refine k_iconst (v := 0) B (by decide) dX13_addHome_1 ?_
  refine k_putI (f := 896) B 14 0 rfl (by decide) rfl (by decide) rfl rfl (fun w h => in_of (uw_14 w h)) (in_of qfRX13_95) tyX13 tyX13_ok nmX13 rfl (tyX13_ok 0 (by decide)) dX13_addHome_2 h1 ?_
  refine k_iload_n B 1 rfl rfl dX13_addHome_5 ?_
  refine k_iload_n B 2 rfl rfl dX13_addHome_6 ?_
  refine callS_I (st := []) B [.int v1, .int v2] (hc) (va_cwS 2 B.1.2.2.2.2 (gS qlRX13_123 qsX13_isPlace qzRX13 qcX13_isPlace) rfl rfl rfl (by decide +kernel) ⟨Nat.le_of_ble_eq_true rfl, Nat.le_of_ble_eq_true rfl⟩) rfl (Nat.le_of_ble_eq_true rfl) rfl dX13_addHome_7 ⟨Nat.le_of_ble_eq_true rfl, Nat.le_of_ble_eq_true rfl⟩ (fun r S' hp => ?_)
  exact kk r S' hp
theorem bX13_addHome_10 (B : Bd p s m args meth c cX13_addHome 4 (wsOf yX13_addHome cX13_addHome 4 (some .int)) RX13 w (some .int) "addHome") {v0 : Nat} {v1 : Int32} {v2 : Int32} {v3 : Int32} {t0 : Int32} {Q : State → Prop}  (kt : t0 = 0 → K p l e rX13_addHome s m args below meth c 4 w 0 0 Q S 23 [(0, .ref v0)] []) (kf : ¬ t0 = 0 → K p l e rX13_addHome s m args below meth c 4 w 0 0 Q S 13 [(0, .ref v0), (1, .int v1), (2, .int v2), (3, .int v3)] []) : K p l e rX13_addHome s m args below meth c 4 w 0 0 Q S 10 [(0, .ref v0), (1, .int v1), (2, .int v2), (3, .int v3)] [.int t0] := by
  refine k_if_eq (tgt := 23) B dX13_addHome_10 (by decide) (fun c => ?_) (fun c => ?_)
  · refine k_sub [0] rfl ?_
    exact kt c
  · exact kf c
theorem bX13_addHome_13 (B : Bd p s m args meth c cX13_addHome 4 (wsOf yX13_addHome cX13_addHome 4 (some .int)) RX13 w (some .int) "addHome") {v0 : Nat} {v1 : Int32} {v2 : Int32} {v3 : Int32} {post : Int32 → St → Prop} {Q : State → Prop} (hc : ConI l yX13_isIn (wsOf yX13_isIn cX13_isIn 3 (some .boolean)) rX13_isIn w S [.int v3, .int 0, .int 16777215] post) (kk : ∀ (r : Int32) (S' : St), post r S' → K p l e rX13_addHome s m args below meth c 4 w 0 0 Q S' 20 [(0, .ref v0), (1, .int v1), (2, .int v2), (3, .int v3)] [.int r]) : K p l e rX13_addHome s m args below meth c 4 w 0 0 Q S 13 [(0, .ref v0), (1, .int v1), (2, .int v2), (3, .int v3)] [] := by
  refine k_iload_n B 3 rfl rfl dX13_addHome_13 ?_
  refine k_iconst (v := 0) B (by decide) dX13_addHome_14 ?_
  refine k_ldc (v := 16777215) B (in_of qtRX13_127) dX13_addHome_15 ?_
  refine callS_I (st := []) B [.int v3, .int 0, .int 16777215] (hc) (va_cwS 3 B.1.2.2.2.2 (gS qlRX13_98 qsX13_isIn qzRX13 qcX13_isIn) rfl rfl rfl (by decide +kernel) ⟨Nat.le_of_ble_eq_true rfl, Nat.le_of_ble_eq_true rfl⟩) rfl (Nat.le_of_ble_eq_true rfl) rfl dX13_addHome_17 ⟨Nat.le_of_ble_eq_true rfl, Nat.le_of_ble_eq_true rfl⟩ (fun r S' hp => ?_)
  exact kk r S' hp
theorem bX13_addHome_20 (B : Bd p s m args meth c cX13_addHome 4 (wsOf yX13_addHome cX13_addHome 4 (some .int)) RX13 w (some .int) "addHome") {v0 : Nat} {v1 : Int32} {v2 : Int32} {v3 : Int32} {t0 : Int32} {Q : State → Prop}  (kt : ¬ t0 = 0 → K p l e rX13_addHome s m args below meth c 4 w 0 0 Q S 29 [(0, .ref v0), (1, .int v1), (2, .int v2), (3, .int v3)] []) (kf : t0 = 0 → K p l e rX13_addHome s m args below meth c 4 w 0 0 Q S 23 [(0, .ref v0)] []) : K p l e rX13_addHome s m args below meth c 4 w 0 0 Q S 20 [(0, .ref v0), (1, .int v1), (2, .int v2), (3, .int v3)] [.int t0] := by
  refine k_if_ne (tgt := 29) B dX13_addHome_20 (by decide) (fun c => ?_) (fun c => ?_)
  · exact kt c
  · refine k_sub [0] rfl ?_
    exact kf c
theorem bX13_addHome_23 (B : Bd p s m args meth c cX13_addHome 4 (wsOf yX13_addHome cX13_addHome 4 (some .int)) RX13 w (some .int) "addHome") {v0 : Nat} {post : Int32 → St → Prop} {Q : State → Prop} (hc : ConI l yX13_no (wsOf yX13_no cX13_no 2 (some .int)) rX13_no w S [.ref v0, .int 1] post) (h1 : kd S v0 = 15) (kk : ∀ (r : Int32) (S' : St), post r S' → K p l e rX13_addHome s m args below meth c 4 w 0 0 Q S' 28 [] [.int r]) : K p l e rX13_addHome s m args below meth c 4 w 0 0 Q S 23 [(0, .ref v0)] [] := by
  refine k_aload_n B 0 rfl rfl dX13_addHome_23 ?_
  refine k_iconst (v := 1) B (by decide) dX13_addHome_24 ?_
  refine callV_I (st := []) B [.int 1] (hc) (cwV 1 B.1.2.2.2.2 (gV qlRX13_120 qiX13_no qeX13_no qzRX13 qcX13_no) rfl rfl rfl (by decide +kernel) ⟨Nat.le_of_ble_eq_true rfl, Nat.le_of_ble_eq_true rfl⟩) rfl rfl (by decide) h1 (Nat.le_of_ble_eq_true rfl) rfl dX13_addHome_25 ⟨Nat.le_of_ble_eq_true rfl, Nat.le_of_ble_eq_true rfl⟩ (fun r S' hp => ?_)
  refine k_sub [] rfl ?_
  exact kk r S' hp
theorem bX13_addHome_28 (B : Bd p s m args meth c cX13_addHome 4 (wsOf yX13_addHome cX13_addHome 4 (some .int)) RX13 w (some .int) "addHome") {t0 : Int32} {post : Int32 → St → Prop}  (hq : post t0 S) : K p l e rX13_addHome s m args below meth c 4 w 0 0 (MQ below (va_Qi post (fun S' t => Hd w S' t.heap) (wA w)) args s 0 0 (wA w)) S 28 [] [.int t0] := by
  exact ret_I B rfl dX13_addHome_28 (hq)
theorem bX13_addHome_29 (B : Bd p s m args meth c cX13_addHome 4 (wsOf yX13_addHome cX13_addHome 4 (some .int)) RX13 w (some .int) "addHome") {v0 : Nat} {v1 : Int32} {v2 : Int32} {v3 : Int32} {Q : State → Prop} (h1 : kd S v0 = 15) (kt : ¬ (gI S 900 v0) = 16 → K p l e rX13_addHome s m args below meth c 4 w 0 0 Q S 44 [(0, .ref v0), (1, .int v1), (2, .int v2), (3, .int v3)] []) (kf : (gI S 900 v0) = 16 → K p l e rX13_addHome s m args below meth c 4 w 0 0 Q S 38 [(0, .ref v0)] []) : K p l e rX13_addHome s m args below meth c 4 w 0 0 Q S 29 [(0, .ref v0), (1, .int v1), (2, .int v2), (3, .int v3)] [] := by
  refine k_aload_n B 0 rfl rfl dX13_addHome_29 ?_
  refine k_getI (f := 900) (v := gI S 900 v0) B 14 4 rfl (by decide) rfl (by decide) rfl rfl (fun w h => in_of (uw_14 w h)) (in_of qfRX13_108) dX13_addHome_30 h1 rfl ?_
  refine k_bipush (v := 16) B (by decide) dX13_addHome_33 ?_
  refine k_icmp_ne (tgt := 44) B dX13_addHome_35 (by decide) (fun c => ?_) (fun c => ?_)
  · exact kt c
  · refine k_sub [0] rfl ?_
    exact kf c
theorem bX13_addHome_38 (B : Bd p s m args meth c cX13_addHome 4 (wsOf yX13_addHome cX13_addHome 4 (some .int)) RX13 w (some .int) "addHome") {v0 : Nat} {post : Int32 → St → Prop} {Q : State → Prop} (hc : ConI l yX13_no (wsOf yX13_no cX13_no 2 (some .int)) rX13_no w S [.ref v0, .int 2] post) (h1 : kd S v0 = 15) (kk : ∀ (r : Int32) (S' : St), post r S' → K p l e rX13_addHome s m args below meth c 4 w 0 0 Q S' 43 [] [.int r]) : K p l e rX13_addHome s m args below meth c 4 w 0 0 Q S 38 [(0, .ref v0)] [] := by
  refine k_aload_n B 0 rfl rfl dX13_addHome_38 ?_
  refine k_iconst (v := 2) B (by decide) dX13_addHome_39 ?_
  refine callV_I (st := []) B [.int 2] (hc) (cwV 1 B.1.2.2.2.2 (gV qlRX13_120 qiX13_no qeX13_no qzRX13 qcX13_no) rfl rfl rfl (by decide +kernel) ⟨Nat.le_of_ble_eq_true rfl, Nat.le_of_ble_eq_true rfl⟩) rfl rfl (by decide) h1 (Nat.le_of_ble_eq_true rfl) rfl dX13_addHome_40 ⟨Nat.le_of_ble_eq_true rfl, Nat.le_of_ble_eq_true rfl⟩ (fun r S' hp => ?_)
  refine k_sub [] rfl ?_
  exact kk r S' hp
theorem bX13_addHome_43 (B : Bd p s m args meth c cX13_addHome 4 (wsOf yX13_addHome cX13_addHome 4 (some .int)) RX13 w (some .int) "addHome") {t0 : Int32} {post : Int32 → St → Prop}  (hq : post t0 S) : K p l e rX13_addHome s m args below meth c 4 w 0 0 (MQ below (va_Qi post (fun S' t => Hd w S' t.heap) (wA w)) args s 0 0 (wA w)) S 43 [] [.int t0] := by
  exact ret_I B rfl dX13_addHome_43 (hq)
theorem bX13_addHome_44 (B : Bd p s m args meth c cX13_addHome 4 (wsOf yX13_addHome cX13_addHome 4 (some .int)) RX13 w (some .int) "addHome") {v0 : Nat} {v1 : Int32} {v2 : Int32} {v3 : Int32} {x1 : Nat} {Q : State → Prop} (h1 : kd S v0 = 15) (h2 : gP S 901 v0 = some x1) (h3 : kd S x1 = 21) (h4 : vp_in (gI S 900 v0) (ln S x1)) (kk : K p l e rX13_addHome s m args below meth c 4 w 0 0 Q (sRI S x1 (va_up (rI S x1) (gI S 900 v0).toNatClampNeg v1)) 54 [(0, .ref v0), (2, .int v2), (3, .int v3)] []) : K p l e rX13_addHome s m args below meth c 4 w 0 0 Q S 44 [(0, .ref v0), (1, .int v1), (2, .int v2), (3, .int v3)] [] := by
  refine k_aload_n B 0 rfl rfl dX13_addHome_44 ?_
  refine k_getP (f := 901) (r := gP S 901 v0) B 14 5 rfl (by decide) rfl (by decide) rfl rfl (fun w h => in_of (uw_14 w h)) (in_of qfRX13_20) dX13_addHome_45 h1 rfl ?_
  rw [h2]; change K _ _ _ _ _ _ _ _ _ _ _ _ _ _ _ _ _ _ (.ref x1 :: _)
  refine k_aload_n B 0 rfl rfl dX13_addHome_48 ?_
  refine k_getI (f := 900) (v := gI S 900 v0) B 14 4 rfl (by decide) rfl (by decide) rfl rfl (fun w h => in_of (uw_14 w h)) (in_of qfRX13_108) dX13_addHome_49 h1 rfl ?_
  refine k_iload_n B 1 rfl rfl dX13_addHome_52 ?_
  refine k_iast (g := rI S x1) (S' := sRI S x1 (va_up (rI S x1) (gI S 900 v0).toNatClampNeg v1)) B dX13_addHome_53 h3 h4 rfl rfl ?_
  refine k_sub [0, 2, 3] rfl ?_
  exact kk
theorem bX13_addHome_54 (B : Bd p s m args meth c cX13_addHome 4 (wsOf yX13_addHome cX13_addHome 4 (some .int)) RX13 w (some .int) "addHome") {v0 : Nat} {v2 : Int32} {v3 : Int32} {x1 : Nat} {Q : State → Prop} (h1 : kd S v0 = 15) (h2 : gP S 902 v0 = some x1) (h3 : kd S x1 = 21) (h4 : vp_in (gI S 900 v0) (ln S x1)) (kk : K p l e rX13_addHome s m args below meth c 4 w 0 0 Q (sRI S x1 (va_up (rI S x1) (gI S 900 v0).toNatClampNeg v2)) 64 [(0, .ref v0), (3, .int v3)] []) : K p l e rX13_addHome s m args below meth c 4 w 0 0 Q S 54 [(0, .ref v0), (2, .int v2), (3, .int v3)] [] := by
  refine k_aload_n B 0 rfl rfl dX13_addHome_54 ?_
  refine k_getP (f := 902) (r := gP S 902 v0) B 14 6 rfl (by decide) rfl (by decide) rfl rfl (fun w h => in_of (uw_14 w h)) (in_of qfRX13_23) dX13_addHome_55 h1 rfl ?_
  rw [h2]; change K _ _ _ _ _ _ _ _ _ _ _ _ _ _ _ _ _ _ (.ref x1 :: _)
  refine k_aload_n B 0 rfl rfl dX13_addHome_58 ?_
  refine k_getI (f := 900) (v := gI S 900 v0) B 14 4 rfl (by decide) rfl (by decide) rfl rfl (fun w h => in_of (uw_14 w h)) (in_of qfRX13_108) dX13_addHome_59 h1 rfl ?_
  refine k_iload_n B 1 rfl rfl dX13_addHome_62 ?_
  refine k_iast (g := rI S x1) (S' := sRI S x1 (va_up (rI S x1) (gI S 900 v0).toNatClampNeg v2)) B dX13_addHome_63 h3 h4 rfl rfl ?_
  refine k_sub [0, 2] rfl ?_
  exact kk
theorem bX13_addHome_64 (B : Bd p s m args meth c cX13_addHome 4 (wsOf yX13_addHome cX13_addHome 4 (some .int)) RX13 w (some .int) "addHome") {v0 : Nat} {v3 : Int32} {x1 : Nat} {Q : State → Prop} (h1 : kd S v0 = 15) (h2 : gP S 903 v0 = some x1) (h3 : kd S x1 = 21) (h4 : vp_in (gI S 900 v0) (ln S x1)) (kk : K p l e rX13_addHome s m args below meth c 4 w 0 0 Q (sRI S x1 (va_up (rI S x1) (gI S 900 v0).toNatClampNeg v3)) 74 [(0, .ref v0)] []) : K p l e rX13_addHome s m args below meth c 4 w 0 0 Q S 64 [(0, .ref v0), (3, .int v3)] [] := by
  refine k_aload_n B 0 rfl rfl dX13_addHome_64 ?_
  refine k_getP (f := 903) (r := gP S 903 v0) B 14 7 rfl (by decide) rfl (by decide) rfl rfl (fun w h => in_of (uw_14 w h)) (in_of qfRX13_26) dX13_addHome_65 h1 rfl ?_
  rw [h2]; change K _ _ _ _ _ _ _ _ _ _ _ _ _ _ _ _ _ _ (.ref x1 :: _)
  refine k_aload_n B 0 rfl rfl dX13_addHome_68 ?_
  refine k_getI (f := 900) (v := gI S 900 v0) B 14 4 rfl (by decide) rfl (by decide) rfl rfl (fun w h => in_of (uw_14 w h)) (in_of qfRX13_108) dX13_addHome_69 h1 rfl ?_
  refine k_iload_n B 1 rfl rfl dX13_addHome_72 ?_
  refine k_iast (g := rI S x1) (S' := sRI S x1 (va_up (rI S x1) (gI S 900 v0).toNatClampNeg v3)) B dX13_addHome_73 h3 h4 rfl rfl ?_
  refine k_sub [0] rfl ?_
  exact kk
theorem bX13_addHome_74 (B : Bd p s m args meth c cX13_addHome 4 (wsOf yX13_addHome cX13_addHome 4 (some .int)) RX13 w (some .int) "addHome") {v0 : Nat} {post : Int32 → St → Prop} (h1 : kd S v0 = 15) (hq : post (((gI S 900 v0) + 1) - 1) (sI S 900 v0 ((gI S 900 v0) + 1))) : K p l e rX13_addHome s m args below meth c 4 w 0 0 (MQ below (va_Qi post (fun S' t => Hd w S' t.heap) (wA w)) args s 0 0 (wA w)) S 74 [(0, .ref v0)] [] := by
  refine k_aload_n B 0 rfl rfl dX13_addHome_74 ?_
  refine k_dup B rfl dX13_addHome_75 ?_
  refine k_getI (f := 900) (v := gI S 900 v0) B 14 4 rfl (by decide) rfl (by decide) rfl rfl (fun w h => in_of (uw_14 w h)) (in_of qfRX13_108) dX13_addHome_76 h1 rfl ?_
  refine k_iconst (v := 1) B (by decide) dX13_addHome_79 ?_
  refine k_iadd B dX13_addHome_80 ?_
  refine k_putI (f := 900) B 14 4 rfl (by decide) rfl (by decide) rfl rfl (fun w h => in_of (uw_14 w h)) (in_of qfRX13_108) tyX13 tyX13_ok nmX13 rfl (tyX13_ok 4 (by decide)) dX13_addHome_81 h1 ?_
  refine k_aload_n B 0 rfl rfl dX13_addHome_84 ?_
  refine k_getI (f := 900) (v := (gI S 900 v0) + 1) B 14 4 rfl (by decide) rfl (by decide) rfl rfl (fun w h => in_of (uw_14 w h)) (in_of qfRX13_108) dX13_addHome_85 h1 (by simp [kd_sI, kd_sP, kd_sRI, kd_sRP, kd_nw, gI_sI, gI_sP, gI_sRI, gI_sRP, gI_nw, gP_sI, gP_sP, gP_sRI, gP_sRP, gP_nw, ln_sI, ln_sP, ln_sRI, ln_sRP, ln_nw, rI_sI, rI_sP, rI_sRI, rI_sRP, rI_nw, rP_sI, rP_sP, rP_sRI, rP_sRP, rP_nw, va_up_self]) ?_
  refine k_iconst (v := 1) B (by decide) dX13_addHome_88 ?_
  refine k_isub B dX13_addHome_89 ?_
  exact ret_I B rfl dX13_addHome_90 (hq)
theorem bX13_order_0 (B : Bd p s m args meth c cX13_order 4 (wsOf yX13_order cX13_order 4 (some .int)) RX13 w (some .int) "order") {v0 : Nat} {v1 : Int32} {v2 : Int32} {v3 : Int32} {post : Int32 → St → Prop} {Q : State → Prop} (h1 : kd S v0 = 15) (hc : ConI l yX13_isHomeNumber (wsOf yX13_isHomeNumber cX13_isHomeNumber 2 (some .boolean)) rX13_isHomeNumber w (sI S 896 v0 0) [.ref v0, .int v1] post) (kk : ∀ (r : Int32) (S' : St), post r S' → K p l e rX13_order s m args below meth c 4 w 0 0 Q S' 10 [(0, .ref v0), (1, .int v1), (2, .int v2), (3, .int v3)] [.int r]) : K p l e rX13_order s m args below meth c 4 w 0 0 Q S 0 [(0, .ref v0), (1, .int v1), (2, .int v2), (3, .int v3)] [] := by
  refine k_aload_n B 0 rfl rfl dX13_order_0 ?_
  refine k_iconst (v := 0) B (by decide) dX13_order_1 ?_
  refine k_putI (f := 896) B 14 0 rfl (by decide) rfl (by decide) rfl rfl (fun w h => in_of (uw_14 w h)) (in_of qfRX13_95) tyX13 tyX13_ok nmX13 rfl (tyX13_ok 0 (by decide)) dX13_order_2 h1 ?_
  refine k_aload_n B 0 rfl rfl dX13_order_5 ?_
  refine k_iload_n B 1 rfl rfl dX13_order_6 ?_
  refine callV_I (st := []) B [.int v1] (hc) (cwV 1 B.1.2.2.2.2 (gV qlRX13_128 qiX13_isHomeNumber qeX13_isHomeNumber qzRX13 qcX13_isHomeNumber) rfl rfl rfl (by decide +kernel) ⟨Nat.le_of_ble_eq_true rfl, Nat.le_of_ble_eq_true rfl⟩) rfl rfl (by decide) h1 (Nat.le_of_ble_eq_true rfl) rfl dX13_order_7 ⟨Nat.le_of_ble_eq_true rfl, Nat.le_of_ble_eq_true rfl⟩ (fun r S' hp => ?_)
  exact kk r S' hp
theorem bX13_order_10 (B : Bd p s m args meth c cX13_order 4 (wsOf yX13_order cX13_order 4 (some .int)) RX13 w (some .int) "order") {v0 : Nat} {v1 : Int32} {v2 : Int32} {v3 : Int32} {t0 : Int32} {Q : State → Prop}  (kt : t0 = 0 → K p l e rX13_order s m args below meth c 4 w 0 0 Q S 36 [(0, .ref v0)] []) (kf : ¬ t0 = 0 → K p l e rX13_order s m args below meth c 4 w 0 0 Q S 13 [(0, .ref v0), (1, .int v1), (2, .int v2), (3, .int v3)] []) : K p l e rX13_order s m args below meth c 4 w 0 0 Q S 10 [(0, .ref v0), (1, .int v1), (2, .int v2), (3, .int v3)] [.int t0] := by
  refine k_if_eq (tgt := 36) B dX13_order_10 (by decide) (fun c => ?_) (fun c => ?_)
  · refine k_sub [0] rfl ?_
    exact kt c
  · exact kf c
theorem bX13_order_13 (B : Bd p s m args meth c cX13_order 4 (wsOf yX13_order cX13_order 4 (some .int)) RX13 w (some .int) "order") {v0 : Nat} {v1 : Int32} {v2 : Int32} {v3 : Int32} {Q : State → Prop}  (kt : v2 = 0 → K p l e rX13_order s m args below meth c 4 w 0 0 Q S 28 [(0, .ref v0), (1, .int v1), (2, .int v2), (3, .int v3)] []) (kf : ¬ v2 = 0 → K p l e rX13_order s m args below meth c 4 w 0 0 Q S 17 [(0, .ref v0), (1, .int v1), (2, .int v2), (3, .int v3)] []) : K p l e rX13_order s m args below meth c 4 w 0 0 Q S 13 [(0, .ref v0), (1, .int v1), (2, .int v2), (3, .int v3)] [] := by
  refine k_iload_n B 2 rfl rfl dX13_order_13 ?_
  refine k_if_eq (tgt := 28) B dX13_order_14 (by decide) (fun c => ?_) (fun c => ?_)
  · exact kt c
  · exact kf c
theorem bX13_order_17 (B : Bd p s m args meth c cX13_order 4 (wsOf yX13_order cX13_order 4 (some .int)) RX13 w (some .int) "order") {v0 : Nat} {v1 : Int32} {v2 : Int32} {v3 : Int32} {post : Int32 → St → Prop} {Q : State → Prop} (hc : ConI l yX13_isLocker (wsOf yX13_isLocker cX13_isLocker 2 (some .boolean)) rX13_isLocker w S [.ref v0, .int v3] post) (h1 : kd S v0 = 15) (kk : ∀ (r : Int32) (S' : St), post r S' → K p l e rX13_order s m args below meth c 4 w 0 0 Q S' 22 [(0, .ref v0), (1, .int v1), (2, .int v2), (3, .int v3)] [.int r]) : K p l e rX13_order s m args below meth c 4 w 0 0 Q S 17 [(0, .ref v0), (1, .int v1), (2, .int v2), (3, .int v3)] [] := by
  refine k_aload_n B 0 rfl rfl dX13_order_17 ?_
  refine k_iload_n B 3 rfl rfl dX13_order_18 ?_
  refine callV_I (st := []) B [.int v3] (hc) (cwV 1 B.1.2.2.2.2 (gV qlRX13_132 qiX13_isLocker qeX13_isLocker qzRX13 qcX13_isLocker) rfl rfl rfl (by decide +kernel) ⟨Nat.le_of_ble_eq_true rfl, Nat.le_of_ble_eq_true rfl⟩) rfl rfl (by decide) h1 (Nat.le_of_ble_eq_true rfl) rfl dX13_order_19 ⟨Nat.le_of_ble_eq_true rfl, Nat.le_of_ble_eq_true rfl⟩ (fun r S' hp => ?_)
  exact kk r S' hp
theorem bX13_order_22 (B : Bd p s m args meth c cX13_order 4 (wsOf yX13_order cX13_order 4 (some .int)) RX13 w (some .int) "order") {v0 : Nat} {v1 : Int32} {v2 : Int32} {v3 : Int32} {t0 : Int32} {Q : State → Prop}  (kt : t0 = 0 → K p l e rX13_order s m args below meth c 4 w 0 0 Q S 36 [(0, .ref v0)] []) (kf : ¬ t0 = 0 → K p l e rX13_order s m args below meth c 4 w 0 0 Q S 25 [(0, .ref v0), (1, .int v1), (2, .int v2), (3, .int v3)] []) : K p l e rX13_order s m args below meth c 4 w 0 0 Q S 22 [(0, .ref v0), (1, .int v1), (2, .int v2), (3, .int v3)] [.int t0] := by
  refine k_if_eq (tgt := 36) B dX13_order_22 (by decide) (fun c => ?_) (fun c => ?_)
  · refine k_sub [0] rfl ?_
    exact kt c
  · exact kf c
theorem bX13_order_25 (B : Bd p s m args meth c cX13_order 4 (wsOf yX13_order cX13_order 4 (some .int)) RX13 w (some .int) "order") {v0 : Nat} {v1 : Int32} {v2 : Int32} {v3 : Int32} {Q : State → Prop}  (kk : K p l e rX13_order s m args below meth c 4 w 0 0 Q S 42 [(0, .ref v0), (1, .int v1), (2, .int v2), (3, .int v3)] []) : K p l e rX13_order s m args below meth c 4 w 0 0 Q S 25 [(0, .ref v0), (1, .int v1), (2, .int v2), (3, .int v3)] [] := by
  refine k_goto (tgt := 42) B dX13_order_25 (by decide) ?_
  exact kk
theorem bX13_order_28 (B : Bd p s m args meth c cX13_order 4 (wsOf yX13_order cX13_order 4 (some .int)) RX13 w (some .int) "order") {v0 : Nat} {v1 : Int32} {v2 : Int32} {v3 : Int32} {post : Int32 → St → Prop} {Q : State → Prop} (hc : ConI l yX13_isHomeNumber (wsOf yX13_isHomeNumber cX13_isHomeNumber 2 (some .boolean)) rX13_isHomeNumber w S [.ref v0, .int v3] post) (h1 : kd S v0 = 15) (kk : ∀ (r : Int32) (S' : St), post r S' → K p l e rX13_order s m args below meth c 4 w 0 0 Q S' 33 [(0, .ref v0), (1, .int v1), (2, .int v2), (3, .int v3)] [.int r]) : K p l e rX13_order s m args below meth c 4 w 0 0 Q S 28 [(0, .ref v0), (1, .int v1), (2, .int v2), (3, .int v3)] [] := by
  refine k_aload_n B 0 rfl rfl dX13_order_28 ?_
  refine k_iload_n B 3 rfl rfl dX13_order_29 ?_
  refine callV_I (st := []) B [.int v3] (hc) (cwV 1 B.1.2.2.2.2 (gV qlRX13_128 qiX13_isHomeNumber qeX13_isHomeNumber qzRX13 qcX13_isHomeNumber) rfl rfl rfl (by decide +kernel) ⟨Nat.le_of_ble_eq_true rfl, Nat.le_of_ble_eq_true rfl⟩) rfl rfl (by decide) h1 (Nat.le_of_ble_eq_true rfl) rfl dX13_order_30 ⟨Nat.le_of_ble_eq_true rfl, Nat.le_of_ble_eq_true rfl⟩ (fun r S' hp => ?_)
  exact kk r S' hp
theorem bX13_order_33 (B : Bd p s m args meth c cX13_order 4 (wsOf yX13_order cX13_order 4 (some .int)) RX13 w (some .int) "order") {v0 : Nat} {v1 : Int32} {v2 : Int32} {v3 : Int32} {t0 : Int32} {Q : State → Prop}  (kt : ¬ t0 = 0 → K p l e rX13_order s m args below meth c 4 w 0 0 Q S 42 [(0, .ref v0), (1, .int v1), (2, .int v2), (3, .int v3)] []) (kf : t0 = 0 → K p l e rX13_order s m args below meth c 4 w 0 0 Q S 36 [(0, .ref v0)] []) : K p l e rX13_order s m args below meth c 4 w 0 0 Q S 33 [(0, .ref v0), (1, .int v1), (2, .int v2), (3, .int v3)] [.int t0] := by
  refine k_if_ne (tgt := 42) B dX13_order_33 (by decide) (fun c => ?_) (fun c => ?_)
  · exact kt c
  · refine k_sub [0] rfl ?_
    exact kf c
theorem bX13_order_36 (B : Bd p s m args meth c cX13_order 4 (wsOf yX13_order cX13_order 4 (some .int)) RX13 w (some .int) "order") {v0 : Nat} {post : Int32 → St → Prop} {Q : State → Prop} (hc : ConI l yX13_no (wsOf yX13_no cX13_no 2 (some .int)) rX13_no w S [.ref v0, .int 1] post) (h1 : kd S v0 = 15) (kk : ∀ (r : Int32) (S' : St), post r S' → K p l e rX13_order s m args below meth c 4 w 0 0 Q S' 41 [] [.int r]) : K p l e rX13_order s m args below meth c 4 w 0 0 Q S 36 [(0, .ref v0)] [] := by
  refine k_aload_n B 0 rfl rfl dX13_order_36 ?_
  refine k_iconst (v := 1) B (by decide) dX13_order_37 ?_
  refine callV_I (st := []) B [.int 1] (hc) (cwV 1 B.1.2.2.2.2 (gV qlRX13_120 qiX13_no qeX13_no qzRX13 qcX13_no) rfl rfl rfl (by decide +kernel) ⟨Nat.le_of_ble_eq_true rfl, Nat.le_of_ble_eq_true rfl⟩) rfl rfl (by decide) h1 (Nat.le_of_ble_eq_true rfl) rfl dX13_order_38 ⟨Nat.le_of_ble_eq_true rfl, Nat.le_of_ble_eq_true rfl⟩ (fun r S' hp => ?_)
  refine k_sub [] rfl ?_
  exact kk r S' hp
theorem bX13_order_41 (B : Bd p s m args meth c cX13_order 4 (wsOf yX13_order cX13_order 4 (some .int)) RX13 w (some .int) "order") {t0 : Int32} {post : Int32 → St → Prop}  (hq : post t0 S) : K p l e rX13_order s m args below meth c 4 w 0 0 (MQ below (va_Qi post (fun S' t => Hd w S' t.heap) (wA w)) args s 0 0 (wA w)) S 41 [] [.int t0] := by
  exact ret_I B rfl dX13_order_41 (hq)
theorem bX13_order_42 (B : Bd p s m args meth c cX13_order 4 (wsOf yX13_order cX13_order 4 (some .int)) RX13 w (some .int) "order") {v0 : Nat} {v1 : Int32} {v2 : Int32} {v3 : Int32} {Q : State → Prop}  (kt : ¬ v2 = 0 → K p l e rX13_order s m args below meth c 4 w 0 0 Q S 57 [(0, .ref v0), (1, .int v1), (2, .int v2), (3, .int v3)] []) (kf : v2 = 0 → K p l e rX13_order s m args below meth c 4 w 0 0 Q S 46 [(0, .ref v0), (1, .int v1), (2, .int v2), (3, .int v3)] []) : K p l e rX13_order s m args below meth c 4 w 0 0 Q S 42 [(0, .ref v0), (1, .int v1), (2, .int v2), (3, .int v3)] [] := by
  refine k_iload_n B 2 rfl rfl dX13_order_42 ?_
  refine k_if_ne (tgt := 57) B dX13_order_43 (by decide) (fun c => ?_) (fun c => ?_)
  · exact kt c
  · exact kf c
theorem bX13_order_46 (B : Bd p s m args meth c cX13_order 4 (wsOf yX13_order cX13_order 4 (some .int)) RX13 w (some .int) "order") {v0 : Nat} {v1 : Int32} {v2 : Int32} {v3 : Int32} {Q : State → Prop}  (kt : ¬ v3 = v1 → K p l e rX13_order s m args below meth c 4 w 0 0 Q S 57 [(0, .ref v0), (1, .int v1), (2, .int v2), (3, .int v3)] []) (kf : v3 = v1 → K p l e rX13_order s m args below meth c 4 w 0 0 Q S 51 [(0, .ref v0)] []) : K p l e rX13_order s m args below meth c 4 w 0 0 Q S 46 [(0, .ref v0), (1, .int v1), (2, .int v2), (3, .int v3)] [] := by
  refine k_iload_n B 3 rfl rfl dX13_order_46 ?_
  refine k_iload_n B 1 rfl rfl dX13_order_47 ?_
  refine k_icmp_ne (tgt := 57) B dX13_order_48 (by decide) (fun c => ?_) (fun c => ?_)
  · exact kt c
  · refine k_sub [0] rfl ?_
    exact kf c
theorem bX13_order_51 (B : Bd p s m args meth c cX13_order 4 (wsOf yX13_order cX13_order 4 (some .int)) RX13 w (some .int) "order") {v0 : Nat} {post : Int32 → St → Prop} {Q : State → Prop} (hc : ConI l yX13_no (wsOf yX13_no cX13_no 2 (some .int)) rX13_no w S [.ref v0, .int 2] post) (h1 : kd S v0 = 15) (kk : ∀ (r : Int32) (S' : St), post r S' → K p l e rX13_order s m args below meth c 4 w 0 0 Q S' 56 [] [.int r]) : K p l e rX13_order s m args below meth c 4 w 0 0 Q S 51 [(0, .ref v0)] [] := by
  refine k_aload_n B 0 rfl rfl dX13_order_51 ?_
  refine k_iconst (v := 2) B (by decide) dX13_order_52 ?_
  refine callV_I (st := []) B [.int 2] (hc) (cwV 1 B.1.2.2.2.2 (gV qlRX13_120 qiX13_no qeX13_no qzRX13 qcX13_no) rfl rfl rfl (by decide +kernel) ⟨Nat.le_of_ble_eq_true rfl, Nat.le_of_ble_eq_true rfl⟩) rfl rfl (by decide) h1 (Nat.le_of_ble_eq_true rfl) rfl dX13_order_53 ⟨Nat.le_of_ble_eq_true rfl, Nat.le_of_ble_eq_true rfl⟩ (fun r S' hp => ?_)
  refine k_sub [] rfl ?_
  exact kk r S' hp
theorem bX13_order_56 (B : Bd p s m args meth c cX13_order 4 (wsOf yX13_order cX13_order 4 (some .int)) RX13 w (some .int) "order") {t0 : Int32} {post : Int32 → St → Prop}  (hq : post t0 S) : K p l e rX13_order s m args below meth c 4 w 0 0 (MQ below (va_Qi post (fun S' t => Hd w S' t.heap) (wA w)) args s 0 0 (wA w)) S 56 [] [.int t0] := by
  exact ret_I B rfl dX13_order_56 (hq)
theorem bX13_order_57 (B : Bd p s m args meth c cX13_order 4 (wsOf yX13_order cX13_order 4 (some .int)) RX13 w (some .int) "order") {v0 : Nat} {v1 : Int32} {v2 : Int32} {v3 : Int32} {x1 : Nat} {Q : State → Prop} (h1 : kd S v0 = 15) (h2 : gP S 904 v0 = some x1) (h3 : kd S x1 = 21) (h4 : vp_in v1 (ln S x1)) (kt : ¬ ((rI S x1) v1.toNatClampNeg) = 3 → K p l e rX13_order s m args below meth c 4 w 0 0 Q S 73 [(0, .ref v0), (1, .int v1), (2, .int v2), (3, .int v3)] []) (kf : ((rI S x1) v1.toNatClampNeg) = 3 → K p l e rX13_order s m args below meth c 4 w 0 0 Q S 67 [(0, .ref v0)] []) : K p l e rX13_order s m args below meth c 4 w 0 0 Q S 57 [(0, .ref v0), (1, .int v1), (2, .int v2), (3, .int v3)] [] := by
  refine k_aload_n B 0 rfl rfl dX13_order_57 ?_
  refine k_getP (f := 904) (r := gP S 904 v0) B 14 8 rfl (by decide) rfl (by decide) rfl rfl (fun w h => in_of (uw_14 w h)) (in_of qfRX13_29) dX13_order_58 h1 rfl ?_
  rw [h2]; change K _ _ _ _ _ _ _ _ _ _ _ _ _ _ _ _ _ _ (.ref x1 :: _)
  refine k_iload_n B 1 rfl rfl dX13_order_61 ?_
  refine k_iald (v := (rI S x1) v1.toNatClampNeg) B dX13_order_62 h3 h4 rfl ?_
  refine k_iconst (v := 3) B (by decide) dX13_order_63 ?_
  refine k_icmp_ne (tgt := 73) B dX13_order_64 (by decide) (fun c => ?_) (fun c => ?_)
  · exact kt c
  · refine k_sub [0] rfl ?_
    exact kf c
theorem bX13_order_67 (B : Bd p s m args meth c cX13_order 4 (wsOf yX13_order cX13_order 4 (some .int)) RX13 w (some .int) "order") {v0 : Nat} {post : Int32 → St → Prop} {Q : State → Prop} (hc : ConI l yX13_no (wsOf yX13_no cX13_no 2 (some .int)) rX13_no w S [.ref v0, .int 3] post) (h1 : kd S v0 = 15) (kk : ∀ (r : Int32) (S' : St), post r S' → K p l e rX13_order s m args below meth c 4 w 0 0 Q S' 72 [] [.int r]) : K p l e rX13_order s m args below meth c 4 w 0 0 Q S 67 [(0, .ref v0)] [] := by
  refine k_aload_n B 0 rfl rfl dX13_order_67 ?_
  refine k_iconst (v := 3) B (by decide) dX13_order_68 ?_
  refine callV_I (st := []) B [.int 3] (hc) (cwV 1 B.1.2.2.2.2 (gV qlRX13_120 qiX13_no qeX13_no qzRX13 qcX13_no) rfl rfl rfl (by decide +kernel) ⟨Nat.le_of_ble_eq_true rfl, Nat.le_of_ble_eq_true rfl⟩) rfl rfl (by decide) h1 (Nat.le_of_ble_eq_true rfl) rfl dX13_order_69 ⟨Nat.le_of_ble_eq_true rfl, Nat.le_of_ble_eq_true rfl⟩ (fun r S' hp => ?_)
  refine k_sub [] rfl ?_
  exact kk r S' hp
theorem bX13_order_72 (B : Bd p s m args meth c cX13_order 4 (wsOf yX13_order cX13_order 4 (some .int)) RX13 w (some .int) "order") {t0 : Int32} {post : Int32 → St → Prop}  (hq : post t0 S) : K p l e rX13_order s m args below meth c 4 w 0 0 (MQ below (va_Qi post (fun S' t => Hd w S' t.heap) (wA w)) args s 0 0 (wA w)) S 72 [] [.int t0] := by
  exact ret_I B rfl dX13_order_72 (hq)
theorem bX13_order_73 (B : Bd p s m args meth c cX13_order 4 (wsOf yX13_order cX13_order 4 (some .int)) RX13 w (some .int) "order") {v0 : Nat} {v1 : Int32} {v2 : Int32} {v3 : Int32} {x1 : Nat} {x2 : Nat} {Q : State → Prop} (h1 : kd S v0 = 15) (h2 : gP S 905 v0 = some x1) (h3 : gP S 904 v0 = some x2) (h4 : kd S x2 = 21) (h5 : vp_in v1 (ln S x2)) (kt : v2 = 0 → K p l e rX13_order s m args below meth c 4 w 0 0 Q S 96 [(0, .ref v0), (1, .int v1), (3, .int v3)] [.int ((3 * v1) + ((rI S x2) v1.toNatClampNeg)), .ref x1]) (kf : ¬ v2 = 0 → K p l e rX13_order s m args below meth c 4 w 0 0 Q S 91 [(0, .ref v0), (1, .int v1), (3, .int v3)] [.int ((3 * v1) + ((rI S x2) v1.toNatClampNeg)), .ref x1]) : K p l e rX13_order s m args below meth c 4 w 0 0 Q S 73 [(0, .ref v0), (1, .int v1), (2, .int v2), (3, .int v3)] [] := by
  refine k_aload_n B 0 rfl rfl dX13_order_73 ?_
  refine k_getP (f := 905) (r := gP S 905 v0) B 14 9 rfl (by decide) rfl (by decide) rfl rfl (fun w h => in_of (uw_14 w h)) (in_of qfRX13_32) dX13_order_74 h1 rfl ?_
  rw [h2]; change K _ _ _ _ _ _ _ _ _ _ _ _ _ _ _ _ _ _ (.ref x1 :: _)
  refine k_iconst (v := 3) B (by decide) dX13_order_77 ?_
  refine k_iload_n B 1 rfl rfl dX13_order_78 ?_
  refine k_imul B dX13_order_79 ?_
  refine k_aload_n B 0 rfl rfl dX13_order_80 ?_
  refine k_getP (f := 904) (r := gP S 904 v0) B 14 8 rfl (by decide) rfl (by decide) rfl rfl (fun w h => in_of (uw_14 w h)) (in_of qfRX13_29) dX13_order_81 h1 rfl ?_
  rw [h3]; change K _ _ _ _ _ _ _ _ _ _ _ _ _ _ _ _ _ _ (.ref x2 :: _)
  refine k_iload_n B 1 rfl rfl dX13_order_84 ?_
  refine k_iald (v := (rI S x2) v1.toNatClampNeg) B dX13_order_85 h4 h5 rfl ?_
  refine k_iadd B dX13_order_86 ?_
  refine k_iload_n B 2 rfl rfl dX13_order_87 ?_
  refine k_if_eq (tgt := 96) B dX13_order_88 (by decide) (fun c => ?_) (fun c => ?_)
  · refine k_sub [0, 1, 3] rfl ?_
    exact kt c
  · refine k_sub [0, 1, 3] rfl ?_
    exact kf c
theorem bX13_order_91 (B : Bd p s m args meth c cX13_order 4 (wsOf yX13_order cX13_order 4 (some .int)) RX13 w (some .int) "order") {v0 : Nat} {v1 : Int32} {v3 : Int32} {t0 : Nat} {t1 : Int32} {Q : State → Prop}  (kk : K p l e rX13_order s m args below meth c 4 w 0 0 Q S 99 [(0, .ref v0), (1, .int v1), (3, .int v3)] [.int 100, .int t1, .ref t0]) : K p l e rX13_order s m args below meth c 4 w 0 0 Q S 91 [(0, .ref v0), (1, .int v1), (3, .int v3)] [.int t1, .ref t0] := by
  refine k_bipush (v := 100) B (by decide) dX13_order_91 ?_
  refine k_goto (tgt := 99) B dX13_order_93 (by decide) ?_
  exact kk
theorem bX13_order_96 (B : Bd p s m args meth c cX13_order 4 (wsOf yX13_order cX13_order 4 (some .int)) RX13 w (some .int) "order") {v0 : Nat} {v1 : Int32} {v3 : Int32} {t0 : Nat} {t1 : Int32} {Q : State → Prop}  (kk : K p l e rX13_order s m args below meth c 4 w 0 0 Q S 99 [(0, .ref v0), (1, .int v1), (3, .int v3)] [.int 200, .int t1, .ref t0]) : K p l e rX13_order s m args below meth c 4 w 0 0 Q S 96 [(0, .ref v0), (1, .int v1), (3, .int v3)] [.int t1, .ref t0] := by
  refine k_sipush (v := 200) B (by decide) dX13_order_96 ?_
  exact kk
theorem bX13_order_99 (B : Bd p s m args meth c cX13_order 4 (wsOf yX13_order cX13_order 4 (some .int)) RX13 w (some .int) "order") {v0 : Nat} {v1 : Int32} {v3 : Int32} {t0 : Nat} {t1 : Int32} {t2 : Int32} {Q : State → Prop} (h1 : kd S t0 = 21) (h2 : vp_in t1 (ln S t0)) (kk : K p l e rX13_order s m args below meth c 4 w 0 0 Q (sRI S t0 (va_up (rI S t0) t1.toNatClampNeg (t2 + v3))) 102 [(0, .ref v0), (1, .int v1)] []) : K p l e rX13_order s m args below meth c 4 w 0 0 Q S 99 [(0, .ref v0), (1, .int v1), (3, .int v3)] [.int t2, .int t1, .ref t0] := by
  refine k_iload_n B 2 rfl rfl dX13_order_99 ?_
  refine k_iadd B dX13_order_100 ?_
  refine k_iast (g := rI S t0) (S' := sRI S t0 (va_up (rI S t0) t1.toNatClampNeg (t2 + v3))) B dX13_order_101 h1 h2 rfl rfl ?_
  refine k_sub [0, 1] rfl ?_
  exact kk
theorem bX13_order_102 (B : Bd p s m args meth c cX13_order 4 (wsOf yX13_order cX13_order 4 (some .int)) RX13 w (some .int) "order") {v0 : Nat} {v1 : Int32} {x1 : Nat} {Q : State → Prop} (h1 : kd S v0 = 15) (h2 : gP S 904 v0 = some x1) (h3 : kd S x1 = 21) (h4 : vp_in v1 (ln S x1)) (kk : K p l e rX13_order s m args below meth c 4 w 0 0 Q (sRI S x1 (va_up (rI S x1) v1.toNatClampNeg (((rI S x1) v1.toNatClampNeg) + 1))) 112 [(0, .ref v0), (1, .int v1)] []) : K p l e rX13_order s m args below meth c 4 w 0 0 Q S 102 [(0, .ref v0), (1, .int v1)] [] := by
  refine k_aload_n B 0 rfl rfl dX13_order_102 ?_
  refine k_getP (f := 904) (r := gP S 904 v0) B 14 8 rfl (by decide) rfl (by decide) rfl rfl (fun w h => in_of (uw_14 w h)) (in_of qfRX13_29) dX13_order_103 h1 rfl ?_
  rw [h2]; change K _ _ _ _ _ _ _ _ _ _ _ _ _ _ _ _ _ _ (.ref x1 :: _)
  refine k_iload_n B 1 rfl rfl dX13_order_106 ?_
  refine k_dup2 B rfl rfl dX13_order_107 ?_
  refine k_iald (v := (rI S x1) v1.toNatClampNeg) B dX13_order_108 h3 h4 rfl ?_
  refine k_iconst (v := 1) B (by decide) dX13_order_109 ?_
  refine k_iadd B dX13_order_110 ?_
  refine k_iast (g := rI S x1) (S' := sRI S x1 (va_up (rI S x1) v1.toNatClampNeg (((rI S x1) v1.toNatClampNeg) + 1))) B dX13_order_111 h3 h4 rfl rfl ?_
  exact kk
theorem bX13_order_112 (B : Bd p s m args meth c cX13_order 4 (wsOf yX13_order cX13_order 4 (some .int)) RX13 w (some .int) "order") {v0 : Nat} {v1 : Int32} {x1 : Nat} {post : Int32 → St → Prop} (h1 : kd S v0 = 15) (h2 : gP S 904 v0 = some x1) (h3 : kd S x1 = 21) (h4 : vp_in v1 (ln S x1)) (hq : post ((rI S x1) v1.toNatClampNeg) S) : K p l e rX13_order s m args below meth c 4 w 0 0 (MQ below (va_Qi post (fun S' t => Hd w S' t.heap) (wA w)) args s 0 0 (wA w)) S 112 [(0, .ref v0), (1, .int v1)] [] := by
  refine k_aload_n B 0 rfl rfl dX13_order_112 ?_
  refine k_getP (f := 904) (r := gP S 904 v0) B 14 8 rfl (by decide) rfl (by decide) rfl rfl (fun w h => in_of (uw_14 w h)) (in_of qfRX13_29) dX13_order_113 h1 rfl ?_
  rw [h2]; change K _ _ _ _ _ _ _ _ _ _ _ _ _ _ _ _ _ _ (.ref x1 :: _)
  refine k_iload_n B 1 rfl rfl dX13_order_116 ?_
  refine k_iald (v := (rI S x1) v1.toNatClampNeg) B dX13_order_117 h3 h4 rfl ?_
  exact ret_I B rfl dX13_order_118 (hq)
theorem bX13_addLocker_0 (B : Bd p s m args meth c cX13_addLocker 7 (wsOf yX13_addLocker cX13_addLocker 7 (some .int)) RX13 w (some .int) "addLocker") {v0 : Nat} {v1 : Int32} {v2 : Int32} {v3 : Int32} {v4 : Int32} {v5 : Int32} {post : Int32 → St → Prop} {k n : Nat} {Q : State → Prop} (h1 : kd S v0 = 15) (hc : ConI l yX13_isPlace (wsOf yX13_isPlace cX13_isPlace 2 (some .boolean)) rX13_isPlace w (sI S 896 v0 0) [.int v1, .int v2] post) (h2 : k + 0 ≤ rX13_addLocker.cells) (h3 : n + 0 ≤ rX13_addLocker.slots) (kk : ∀ (r : Int32) (S' : St), post r S' → K p l e rX13_addLocker s m args below meth c 7 w k n Q S' 10 [(0, .ref v0), (1, .int v1), (2, .int v2), (3, .int v3), (4, .int v4), (5, .int v5)] [.int r]) : K p l e rX13_addLocker s m args below meth c 7 w k n Q S 0 [(0, .ref v0), (1, .int v1), (2, .int v2), (3, .int v3), (4, .int v4), (5, .int v5)] [] := by
  refine k_aload_n B 0 rfl rfl dX13_addLocker_0 ?_
  refine k_iconst (v := 0) B (by decide) dX13_addLocker_1 ?_
  refine k_putI (f := 896) B 14 0 rfl (by decide) rfl (by decide) rfl rfl (fun w h => in_of (uw_14 w h)) (in_of qfRX13_95) tyX13 tyX13_ok nmX13 rfl (tyX13_ok 0 (by decide)) dX13_addLocker_2 h1 ?_
  refine k_iload_n B 1 rfl rfl dX13_addLocker_5 ?_
  refine k_iload_n B 2 rfl rfl dX13_addLocker_6 ?_
  refine callS_I (st := []) B [.int v1, .int v2] (hc) (va_cwS 2 B.1.2.2.2.2 (gS qlRX13_123 qsX13_isPlace qzRX13 qcX13_isPlace) rfl rfl rfl (by decide +kernel) ⟨Nat.le_of_ble_eq_true rfl, Nat.le_of_ble_eq_true rfl⟩) rfl (Nat.le_of_ble_eq_true rfl) rfl dX13_addLocker_7 ⟨h2, h3⟩ (fun r S' hp => ?_)
  exact kk r S' hp
theorem bX13_addLocker_10 (B : Bd p s m args meth c cX13_addLocker 7 (wsOf yX13_addLocker cX13_addLocker 7 (some .int)) RX13 w (some .int) "addLocker") {v0 : Nat} {v1 : Int32} {v2 : Int32} {v3 : Int32} {v4 : Int32} {v5 : Int32} {t0 : Int32} {k n : Nat} {Q : State → Prop}  (kt : t0 = 0 → K p l e rX13_addLocker s m args below meth c 7 w k n Q S 45 [(0, .ref v0)] []) (kf : ¬ t0 = 0 → K p l e rX13_addLocker s m args below meth c 7 w k n Q S 13 [(0, .ref v0), (1, .int v1), (2, .int v2), (3, .int v3), (4, .int v4), (5, .int v5)] []) : K p l e rX13_addLocker s m args below meth c 7 w k n Q S 10 [(0, .ref v0), (1, .int v1), (2, .int v2), (3, .int v3), (4, .int v4), (5, .int v5)] [.int t0] := by
  refine k_if_eq (tgt := 45) B dX13_addLocker_10 (by decide) (fun c => ?_) (fun c => ?_)
  · refine k_sub [0] rfl ?_
    exact kt c
  · exact kf c
theorem bX13_addLocker_13 (B : Bd p s m args meth c cX13_addLocker 7 (wsOf yX13_addLocker cX13_addLocker 7 (some .int)) RX13 w (some .int) "addLocker") {v0 : Nat} {v1 : Int32} {v2 : Int32} {v3 : Int32} {v4 : Int32} {v5 : Int32} {post : Int32 → St → Prop} {k n : Nat} {Q : State → Prop} (hc : ConI l yX13_isIn (wsOf yX13_isIn cX13_isIn 3 (some .boolean)) rX13_isIn w S [.int v3, .int 0, .int 9] post) (h1 : k + 0 ≤ rX13_addLocker.cells) (h2 : n + 0 ≤ rX13_addLocker.slots) (kk : ∀ (r : Int32) (S' : St), post r S' → K p l e rX13_addLocker s m args below meth c 7 w k n Q S' 20 [(0, .ref v0), (1, .int v1), (2, .int v2), (3, .int v3), (4, .int v4), (5, .int v5)] [.int r]) : K p l e rX13_addLocker s m args below meth c 7 w k n Q S 13 [(0, .ref v0), (1, .int v1), (2, .int v2), (3, .int v3), (4, .int v4), (5, .int v5)] [] := by
  refine k_iload_n B 3 rfl rfl dX13_addLocker_13 ?_
  refine k_iconst (v := 0) B (by decide) dX13_addLocker_14 ?_
  refine k_bipush (v := 9) B (by decide) dX13_addLocker_15 ?_
  refine callS_I (st := []) B [.int v3, .int 0, .int 9] (hc) (va_cwS 3 B.1.2.2.2.2 (gS qlRX13_98 qsX13_isIn qzRX13 qcX13_isIn) rfl rfl rfl (by decide +kernel) ⟨Nat.le_of_ble_eq_true rfl, Nat.le_of_ble_eq_true rfl⟩) rfl (Nat.le_of_ble_eq_true rfl) rfl dX13_addLocker_17 ⟨h1, h2⟩ (fun r S' hp => ?_)
  exact kk r S' hp
theorem bX13_addLocker_20 (B : Bd p s m args meth c cX13_addLocker 7 (wsOf yX13_addLocker cX13_addLocker 7 (some .int)) RX13 w (some .int) "addLocker") {v0 : Nat} {v1 : Int32} {v2 : Int32} {v3 : Int32} {v4 : Int32} {v5 : Int32} {t0 : Int32} {k n : Nat} {Q : State → Prop}  (kt : t0 = 0 → K p l e rX13_addLocker s m args below meth c 7 w k n Q S 45 [(0, .ref v0)] []) (kf : ¬ t0 = 0 → K p l e rX13_addLocker s m args below meth c 7 w k n Q S 23 [(0, .ref v0), (1, .int v1), (2, .int v2), (3, .int v3), (4, .int v4), (5, .int v5)] []) : K p l e rX13_addLocker s m args below meth c 7 w k n Q S 20 [(0, .ref v0), (1, .int v1), (2, .int v2), (3, .int v3), (4, .int v4), (5, .int v5)] [.int t0] := by
  refine k_if_eq (tgt := 45) B dX13_addLocker_20 (by decide) (fun c => ?_) (fun c => ?_)
  · refine k_sub [0] rfl ?_
    exact kt c
  · exact kf c
theorem bX13_addLocker_23 (B : Bd p s m args meth c cX13_addLocker 7 (wsOf yX13_addLocker cX13_addLocker 7 (some .int)) RX13 w (some .int) "addLocker") {v0 : Nat} {v1 : Int32} {v2 : Int32} {v3 : Int32} {v4 : Int32} {v5 : Int32} {post : Int32 → St → Prop} {k n : Nat} {Q : State → Prop} (hc : ConI l yX13_isIn (wsOf yX13_isIn cX13_isIn 3 (some .boolean)) rX13_isIn w S [.int v4, .int 0, .int 9] post) (h1 : k + 0 ≤ rX13_addLocker.cells) (h2 : n + 0 ≤ rX13_addLocker.slots) (kk : ∀ (r : Int32) (S' : St), post r S' → K p l e rX13_addLocker s m args below meth c 7 w k n Q S' 31 [(0, .ref v0), (1, .int v1), (2, .int v2), (3, .int v3), (4, .int v4), (5, .int v5)] [.int r]) : K p l e rX13_addLocker s m args below meth c 7 w k n Q S 23 [(0, .ref v0), (1, .int v1), (2, .int v2), (3, .int v3), (4, .int v4), (5, .int v5)] [] := by
  refine k_iload B 4 rfl dX13_addLocker_23 ?_
  refine k_iconst (v := 0) B (by decide) dX13_addLocker_25 ?_
  refine k_bipush (v := 9) B (by decide) dX13_addLocker_26 ?_
  refine callS_I (st := []) B [.int v4, .int 0, .int 9] (hc) (va_cwS 3 B.1.2.2.2.2 (gS qlRX13_98 qsX13_isIn qzRX13 qcX13_isIn) rfl rfl rfl (by decide +kernel) ⟨Nat.le_of_ble_eq_true rfl, Nat.le_of_ble_eq_true rfl⟩) rfl (Nat.le_of_ble_eq_true rfl) rfl dX13_addLocker_28 ⟨h1, h2⟩ (fun r S' hp => ?_)
  exact kk r S' hp
theorem bX13_addLocker_31 (B : Bd p s m args meth c cX13_addLocker 7 (wsOf yX13_addLocker cX13_addLocker 7 (some .int)) RX13 w (some .int) "addLocker") {v0 : Nat} {v1 : Int32} {v2 : Int32} {v3 : Int32} {v4 : Int32} {v5 : Int32} {t0 : Int32} {k n : Nat} {Q : State → Prop}  (kt : t0 = 0 → K p l e rX13_addLocker s m args below meth c 7 w k n Q S 45 [(0, .ref v0)] []) (kf : ¬ t0 = 0 → K p l e rX13_addLocker s m args below meth c 7 w k n Q S 34 [(0, .ref v0), (1, .int v1), (2, .int v2), (3, .int v3), (4, .int v4), (5, .int v5)] []) : K p l e rX13_addLocker s m args below meth c 7 w k n Q S 31 [(0, .ref v0), (1, .int v1), (2, .int v2), (3, .int v3), (4, .int v4), (5, .int v5)] [.int t0] := by
  refine k_if_eq (tgt := 45) B dX13_addLocker_31 (by decide) (fun c => ?_) (fun c => ?_)
  · refine k_sub [0] rfl ?_
    exact kt c
  · exact kf c
theorem bX13_addLocker_34 (B : Bd p s m args meth c cX13_addLocker 7 (wsOf yX13_addLocker cX13_addLocker 7 (some .int)) RX13 w (some .int) "addLocker") {v0 : Nat} {v1 : Int32} {v2 : Int32} {v3 : Int32} {v4 : Int32} {v5 : Int32} {post : Int32 → St → Prop} {k n : Nat} {Q : State → Prop} (hc : ConI l yX13_isIn (wsOf yX13_isIn cX13_isIn 3 (some .boolean)) rX13_isIn w S [.int v5, .int 0, .int 9] post) (h1 : k + 0 ≤ rX13_addLocker.cells) (h2 : n + 0 ≤ rX13_addLocker.slots) (kk : ∀ (r : Int32) (S' : St), post r S' → K p l e rX13_addLocker s m args below meth c 7 w k n Q S' 42 [(0, .ref v0), (1, .int v1), (2, .int v2), (3, .int v3), (4, .int v4), (5, .int v5)] [.int r]) : K p l e rX13_addLocker s m args below meth c 7 w k n Q S 34 [(0, .ref v0), (1, .int v1), (2, .int v2), (3, .int v3), (4, .int v4), (5, .int v5)] [] := by
  refine k_iload B 5 rfl dX13_addLocker_34 ?_
  refine k_iconst (v := 0) B (by decide) dX13_addLocker_36 ?_
  refine k_bipush (v := 9) B (by decide) dX13_addLocker_37 ?_
  refine callS_I (st := []) B [.int v5, .int 0, .int 9] (hc) (va_cwS 3 B.1.2.2.2.2 (gS qlRX13_98 qsX13_isIn qzRX13 qcX13_isIn) rfl rfl rfl (by decide +kernel) ⟨Nat.le_of_ble_eq_true rfl, Nat.le_of_ble_eq_true rfl⟩) rfl (Nat.le_of_ble_eq_true rfl) rfl dX13_addLocker_39 ⟨h1, h2⟩ (fun r S' hp => ?_)
  exact kk r S' hp
theorem bX13_addLocker_42 (B : Bd p s m args meth c cX13_addLocker 7 (wsOf yX13_addLocker cX13_addLocker 7 (some .int)) RX13 w (some .int) "addLocker") {v0 : Nat} {v1 : Int32} {v2 : Int32} {v3 : Int32} {v4 : Int32} {v5 : Int32} {t0 : Int32} {k n : Nat} {Q : State → Prop}  (kt : ¬ t0 = 0 → K p l e rX13_addLocker s m args below meth c 7 w k n Q S 51 [(0, .ref v0), (1, .int v1), (2, .int v2), (3, .int v3), (4, .int v4), (5, .int v5)] []) (kf : t0 = 0 → K p l e rX13_addLocker s m args below meth c 7 w k n Q S 45 [(0, .ref v0)] []) : K p l e rX13_addLocker s m args below meth c 7 w k n Q S 42 [(0, .ref v0), (1, .int v1), (2, .int v2), (3, .int v3), (4, .int v4), (5, .int v5)] [.int t0] := by
  refine k_if_ne (tgt := 51) B dX13_addLocker_42 (by decide) (fun c => ?_) (fun c => ?_)
  · exact kt c
  · refine k_sub [0] rfl ?_
    exact kf c
theorem bX13_addLocker_45 (B : Bd p s m args meth c cX13_addLocker 7 (wsOf yX13_addLocker cX13_addLocker 7 (some .int)) RX13 w (some .int) "addLocker") {v0 : Nat} {post : Int32 → St → Prop} {k n : Nat} {Q : State → Prop} (hc : ConI l yX13_no (wsOf yX13_no cX13_no 2 (some .int)) rX13_no w S [.ref v0, .int 1] post) (h1 : k + 0 ≤ rX13_addLocker.cells) (h2 : n + 0 ≤ rX13_addLocker.slots) (h3 : kd S v0 = 15) (kk : ∀ (r : Int32) (S' : St), post r S' → K p l e rX13_addLocker s m args below meth c 7 w k n Q S' 50 [] [.int r]) : K p l e rX13_addLocker s m args below meth c 7 w k n Q S 45 [(0, .ref v0)] [] := by
  refine k_aload_n B 0 rfl rfl dX13_addLocker_45 ?_
  refine k_iconst (v := 1) B (by decide) dX13_addLocker_46 ?_
  refine callV_I (st := []) B [.int 1] (hc) (cwV 1 B.1.2.2.2.2 (gV qlRX13_120 qiX13_no qeX13_no qzRX13 qcX13_no) rfl rfl rfl (by decide +kernel) ⟨Nat.le_of_ble_eq_true rfl, Nat.le_of_ble_eq_true rfl⟩) rfl rfl (by decide) h3 (Nat.le_of_ble_eq_true rfl) rfl dX13_addLocker_47 ⟨h1, h2⟩ (fun r S' hp => ?_)
  refine k_sub [] rfl ?_
  exact kk r S' hp
theorem bX13_addLocker_50 (B : Bd p s m args meth c cX13_addLocker 7 (wsOf yX13_addLocker cX13_addLocker 7 (some .int)) RX13 w (some .int) "addLocker") {t0 : Int32} {post : Int32 → St → Prop} {k n : Nat}  (hq : post t0 S) : K p l e rX13_addLocker s m args below meth c 7 w k n (MQ below (va_Qi post (fun S' t => Hd w S' t.heap) (wA w)) args s k n (wA w)) S 50 [] [.int t0] := by
  exact ret_I B rfl dX13_addLocker_50 (hq)
theorem bX13_addLocker_51 (B : Bd p s m args meth c cX13_addLocker 7 (wsOf yX13_addLocker cX13_addLocker 7 (some .int)) RX13 w (some .int) "addLocker") {v0 : Nat} {v1 : Int32} {v2 : Int32} {v3 : Int32} {v4 : Int32} {v5 : Int32} {k n : Nat} {Q : State → Prop} (h1 : kd S v0 = 15) (kt : ¬ (gI S 906 v0) = 4 → K p l e rX13_addLocker s m args below meth c 7 w k n Q S 65 [(0, .ref v0), (1, .int v1), (2, .int v2), (3, .int v3), (4, .int v4), (5, .int v5)] []) (kf : (gI S 906 v0) = 4 → K p l e rX13_addLocker s m args below meth c 7 w k n Q S 59 [(0, .ref v0)] []) : K p l e rX13_addLocker s m args below meth c 7 w k n Q S 51 [(0, .ref v0), (1, .int v1), (2, .int v2), (3, .int v3), (4, .int v4), (5, .int v5)] [] := by
  refine k_aload_n B 0 rfl rfl dX13_addLocker_51 ?_
  refine k_getI (f := 906) (v := gI S 906 v0) B 14 10 rfl (by decide) rfl (by decide) rfl rfl (fun w h => in_of (uw_14 w h)) (in_of qfRX13_111) dX13_addLocker_52 h1 rfl ?_
  refine k_iconst (v := 4) B (by decide) dX13_addLocker_55 ?_
  refine k_icmp_ne (tgt := 65) B dX13_addLocker_56 (by decide) (fun c => ?_) (fun c => ?_)
  · exact kt c
  · refine k_sub [0] rfl ?_
    exact kf c
theorem bX13_addLocker_59 (B : Bd p s m args meth c cX13_addLocker 7 (wsOf yX13_addLocker cX13_addLocker 7 (some .int)) RX13 w (some .int) "addLocker") {v0 : Nat} {post : Int32 → St → Prop} {k n : Nat} {Q : State → Prop} (hc : ConI l yX13_no (wsOf yX13_no cX13_no 2 (some .int)) rX13_no w S [.ref v0, .int 2] post) (h1 : k + 0 ≤ rX13_addLocker.cells) (h2 : n + 0 ≤ rX13_addLocker.slots) (h3 : kd S v0 = 15) (kk : ∀ (r : Int32) (S' : St), post r S' → K p l e rX13_addLocker s m args below meth c 7 w k n Q S' 64 [] [.int r]) : K p l e rX13_addLocker s m args below meth c 7 w k n Q S 59 [(0, .ref v0)] [] := by
  refine k_aload_n B 0 rfl rfl dX13_addLocker_59 ?_
  refine k_iconst (v := 2) B (by decide) dX13_addLocker_60 ?_
  refine callV_I (st := []) B [.int 2] (hc) (cwV 1 B.1.2.2.2.2 (gV qlRX13_120 qiX13_no qeX13_no qzRX13 qcX13_no) rfl rfl rfl (by decide +kernel) ⟨Nat.le_of_ble_eq_true rfl, Nat.le_of_ble_eq_true rfl⟩) rfl rfl (by decide) h3 (Nat.le_of_ble_eq_true rfl) rfl dX13_addLocker_61 ⟨h1, h2⟩ (fun r S' hp => ?_)
  refine k_sub [] rfl ?_
  exact kk r S' hp
theorem bX13_addLocker_64 (B : Bd p s m args meth c cX13_addLocker 7 (wsOf yX13_addLocker cX13_addLocker 7 (some .int)) RX13 w (some .int) "addLocker") {t0 : Int32} {post : Int32 → St → Prop} {k n : Nat}  (hq : post t0 S) : K p l e rX13_addLocker s m args below meth c 7 w k n (MQ below (va_Qi post (fun S' t => Hd w S' t.heap) (wA w)) args s k n (wA w)) S 64 [] [.int t0] := by
  exact ret_I B rfl dX13_addLocker_64 (hq)
theorem bX13_addLocker_65 (B : Bd p s m args meth c cX13_addLocker 7 (wsOf yX13_addLocker cX13_addLocker 7 (some .int)) RX13 w (some .int) "addLocker") {v0 : Nat} {v1 : Int32} {v2 : Int32} {v3 : Int32} {v4 : Int32} {v5 : Int32} {x1 : Nat} {k n : Nat} {Q : State → Prop} (h1 : kd S v0 = 15) (h2 : gP S 907 v0 = some x1) (h3 : kd S x1 = 21) (h4 : vp_in (gI S 906 v0) (ln S x1)) (kk : K p l e rX13_addLocker s m args below meth c 7 w k n Q (sRI S x1 (va_up (rI S x1) (gI S 906 v0).toNatClampNeg v1)) 75 [(0, .ref v0), (2, .int v2), (3, .int v3), (4, .int v4), (5, .int v5)] []) : K p l e rX13_addLocker s m args below meth c 7 w k n Q S 65 [(0, .ref v0), (1, .int v1), (2, .int v2), (3, .int v3), (4, .int v4), (5, .int v5)] [] := by
  refine k_aload_n B 0 rfl rfl dX13_addLocker_65 ?_
  refine k_getP (f := 907) (r := gP S 907 v0) B 14 11 rfl (by decide) rfl (by decide) rfl rfl (fun w h => in_of (uw_14 w h)) (in_of qfRX13_35) dX13_addLocker_66 h1 rfl ?_
  rw [h2]; change K _ _ _ _ _ _ _ _ _ _ _ _ _ _ _ _ _ _ (.ref x1 :: _)
  refine k_aload_n B 0 rfl rfl dX13_addLocker_69 ?_
  refine k_getI (f := 906) (v := gI S 906 v0) B 14 10 rfl (by decide) rfl (by decide) rfl rfl (fun w h => in_of (uw_14 w h)) (in_of qfRX13_111) dX13_addLocker_70 h1 rfl ?_
  refine k_iload_n B 1 rfl rfl dX13_addLocker_73 ?_
  refine k_iast (g := rI S x1) (S' := sRI S x1 (va_up (rI S x1) (gI S 906 v0).toNatClampNeg v1)) B dX13_addLocker_74 h3 h4 rfl rfl ?_
  refine k_sub [0, 2, 3, 4, 5] rfl ?_
  exact kk
theorem bX13_addLocker_75 (B : Bd p s m args meth c cX13_addLocker 7 (wsOf yX13_addLocker cX13_addLocker 7 (some .int)) RX13 w (some .int) "addLocker") {v0 : Nat} {v2 : Int32} {v3 : Int32} {v4 : Int32} {v5 : Int32} {x1 : Nat} {k n : Nat} {Q : State → Prop} (h1 : kd S v0 = 15) (h2 : gP S 908 v0 = some x1) (h3 : kd S x1 = 21) (h4 : vp_in (gI S 906 v0) (ln S x1)) (kk : K p l e rX13_addLocker s m args below meth c 7 w k n Q (sRI S x1 (va_up (rI S x1) (gI S 906 v0).toNatClampNeg v2)) 85 [(0, .ref v0), (3, .int v3), (4, .int v4), (5, .int v5)] []) : K p l e rX13_addLocker s m args below meth c 7 w k n Q S 75 [(0, .ref v0), (2, .int v2), (3, .int v3), (4, .int v4), (5, .int v5)] [] := by
  refine k_aload_n B 0 rfl rfl dX13_addLocker_75 ?_
  refine k_getP (f := 908) (r := gP S 908 v0) B 14 12 rfl (by decide) rfl (by decide) rfl rfl (fun w h => in_of (uw_14 w h)) (in_of qfRX13_38) dX13_addLocker_76 h1 rfl ?_
  rw [h2]; change K _ _ _ _ _ _ _ _ _ _ _ _ _ _ _ _ _ _ (.ref x1 :: _)
  refine k_aload_n B 0 rfl rfl dX13_addLocker_79 ?_
  refine k_getI (f := 906) (v := gI S 906 v0) B 14 10 rfl (by decide) rfl (by decide) rfl rfl (fun w h => in_of (uw_14 w h)) (in_of qfRX13_111) dX13_addLocker_80 h1 rfl ?_
  refine k_iload_n B 1 rfl rfl dX13_addLocker_83 ?_
  refine k_iast (g := rI S x1) (S' := sRI S x1 (va_up (rI S x1) (gI S 906 v0).toNatClampNeg v2)) B dX13_addLocker_84 h3 h4 rfl rfl ?_
  refine k_sub [0, 2, 3, 4] rfl ?_
  exact kk
theorem bX13_addLocker_85 (B : Bd p s m args meth c cX13_addLocker 7 (wsOf yX13_addLocker cX13_addLocker 7 (some .int)) RX13 w (some .int) "addLocker") {v0 : Nat} {v3 : Int32} {v4 : Int32} {v5 : Int32} {k n : Nat} {Q : State → Prop} (h1 : k + 1 ≤ rX13_addLocker.cells) (h2 : n + 3 ≤ rX13_addLocker.slots) (kk : ∀ q86 : Nat, kd S q86 = 0 → K p l e rX13_addLocker s m args below meth c 7 w (k + 1) (n + 3) Q (nw S q86 21 3) 88 [(0, .ref v0), (3, .int v3), (4, .int v4), (5, .int v5)] [.ref q86]) : K p l e rX13_addLocker s m args below meth c 7 w k n Q S 85 [(0, .ref v0), (3, .int v3), (4, .int v4), (5, .int v5)] [] := by
  refine k_iconst (v := 3) B (by decide) dX13_addLocker_85 ?_
  refine k_newI (N' := 3) B (in_of qarrI) (by decide) (by decide) (by decide) h1 h2 dX13_addLocker_86 (fun q86 f86 => ?_)
  exact kk q86 f86
theorem bX13_addLocker_88 (B : Bd p s m args meth c cX13_addLocker 7 (wsOf yX13_addLocker cX13_addLocker 7 (some .int)) RX13 w (some .int) "addLocker") {v0 : Nat} {v3 : Int32} {v4 : Int32} {v5 : Int32} {t0 : Nat} {k n : Nat} {Q : State → Prop} (h1 : kd S t0 = 21) (h2 : vp_in 0 (ln S t0)) (h3 : vp_in 1 (ln S t0)) (h4 : vp_in 2 (ln S t0)) (kk : K p l e rX13_addLocker s m args below meth c 7 w k n Q (sRI S t0 (va_up (va_up (va_up (rI S t0) (0 : Int32).toNatClampNeg v3) (1 : Int32).toNatClampNeg v4) (2 : Int32).toNatClampNeg v5)) 102 [(0, .ref v0)] [.ref t0]) : K p l e rX13_addLocker s m args below meth c 7 w k n Q S 88 [(0, .ref v0), (3, .int v3), (4, .int v4), (5, .int v5)] [.ref t0] := by
  refine k_dup B rfl dX13_addLocker_88 ?_
  refine k_iconst (v := 0) B (by decide) dX13_addLocker_89 ?_
  refine k_iload_n B 1 rfl rfl dX13_addLocker_90 ?_
  refine k_iast (g := rI S t0) (S' := sRI S t0 (va_up (rI S t0) (0 : Int32).toNatClampNeg v3)) B dX13_addLocker_91 h1 h2 rfl rfl ?_
  refine k_dup B rfl dX13_addLocker_92 ?_
  refine k_iconst (v := 1) B (by decide) dX13_addLocker_93 ?_
  refine k_iload B 2 rfl dX13_addLocker_94 ?_
  refine k_iast (g := va_up (rI S t0) (0 : Int32).toNatClampNeg v3) (S' := sRI S t0 (va_up (va_up (rI S t0) (0 : Int32).toNatClampNeg v3) (1 : Int32).toNatClampNeg v4)) B dX13_addLocker_96 h1 h3 (by simp [kd_sI, kd_sP, kd_sRI, kd_sRP, kd_nw, gI_sI, gI_sP, gI_sRI, gI_sRP, gI_nw, gP_sI, gP_sP, gP_sRI, gP_sRP, gP_nw, ln_sI, ln_sP, ln_sRI, ln_sRP, ln_nw, rI_sI, rI_sP, rI_sRI, rI_sRP, rI_nw, rP_sI, rP_sP, rP_sRI, rP_sRP, rP_nw, va_up_self]) (sRI_sRI ..) ?_
  refine k_dup B rfl dX13_addLocker_97 ?_
  refine k_iconst (v := 2) B (by decide) dX13_addLocker_98 ?_
  refine k_iload B 3 rfl dX13_addLocker_99 ?_
  refine k_iast (g := va_up (va_up (rI S t0) (0 : Int32).toNatClampNeg v3) (1 : Int32).toNatClampNeg v4) (S' := sRI S t0 (va_up (va_up (va_up (rI S t0) (0 : Int32).toNatClampNeg v3) (1 : Int32).toNatClampNeg v4) (2 : Int32).toNatClampNeg v5)) B dX13_addLocker_101 h1 h4 (by simp [kd_sI, kd_sP, kd_sRI, kd_sRP, kd_nw, gI_sI, gI_sP, gI_sRI, gI_sRP, gI_nw, gP_sI, gP_sP, gP_sRI, gP_sRP, gP_nw, ln_sI, ln_sP, ln_sRI, ln_sRP, ln_nw, rI_sI, rI_sP, rI_sRI, rI_sRP, rI_nw, rP_sI, rP_sP, rP_sRI, rP_sRP, rP_nw, va_up_self]) (sRI_sRI ..) ?_
  refine k_sub [0] rfl ?_
  exact kk
theorem bX13_addLocker_102 (B : Bd p s m args meth c cX13_addLocker 7 (wsOf yX13_addLocker cX13_addLocker 7 (some .int)) RX13 w (some .int) "addLocker") {v0 : Nat} {t0 : Nat} {x1 : Nat} {x2 : Nat} {post : Int32 → St → Prop} {k n : Nat} (h1 : kd S v0 = 15) (h2 : gP S 919 v0 = some x1) (h3 : kd S x1 = 14) (h4 : gP S 839 x1 = some x2) (h5 : kd S t0 = 21) (h6 : kd S x2 = 21) (h7 : ¬ (3 * (gI S 906 v0)) < 0) (h8 : (0 : Int32).toNatClampNeg + (3 : Int32).toNatClampNeg ≤ ln S t0) (h9 : (3 * (gI S 906 v0)).toNatClampNeg + (3 : Int32).toNatClampNeg ≤ ln S x2) (hq : post (((gI S 906 v0) + 1) - 1) (sI (sRI S x2 (va_cpy (rI S t0) (rI S x2) (0 : Int32).toNatClampNeg (3 * (gI S 906 v0)).toNatClampNeg (3 : Int32).toNatClampNeg)) 906 v0 ((gI S 906 v0) + 1))) : K p l e rX13_addLocker s m args below meth c 7 w k n (MQ below (va_Qi post (fun S' t => Hd w S' t.heap) (wA w)) args s k n (wA w)) S 102 [(0, .ref v0)] [.ref t0] := by
  refine k_astore (lst' := [(6, .ref t0), (0, .ref v0)]) B (by decide) rfl dX13_addLocker_102 ?_
  refine k_aload B 0 rfl dX13_addLocker_104 ?_
  refine k_iconst (v := 0) B (by decide) dX13_addLocker_106 ?_
  refine k_aload_n B 1 rfl rfl dX13_addLocker_107 ?_
  refine k_getP (f := 919) (r := gP S 919 v0) B 14 23 rfl (by decide) rfl (by decide) rfl rfl (fun w h => in_of (uw_14 w h)) (in_of qfRX13_70) dX13_addLocker_108 h1 rfl ?_
  rw [h2]; change K _ _ _ _ _ _ _ _ _ _ _ _ _ _ _ _ _ _ (.ref x1 :: _)
  refine k_getPN (f := 839) (r := gP S 839 x1) B 13 7 rfl (by decide) rfl (by decide) rfl rfl (fun w h => in_of (uw_13 w h)) "LastMileModel" (nzF_1 B.2.2.2.1.2.2.2.1) dX13_addLocker_111 h3 rfl ?_
  rw [h4]; change K _ _ _ _ _ _ _ _ _ _ _ _ _ _ _ _ _ _ (.ref x2 :: _)
  refine k_iconst (v := 3) B (by decide) dX13_addLocker_114 ?_
  refine k_aload_n B 1 rfl rfl dX13_addLocker_115 ?_
  refine k_getI (f := 906) (v := gI S 906 v0) B 14 10 rfl (by decide) rfl (by decide) rfl rfl (fun w h => in_of (uw_14 w h)) (in_of qfRX13_111) dX13_addLocker_116 h1 rfl ?_
  refine k_imul B dX13_addLocker_119 ?_
  refine k_iconst (v := 3) B (by decide) dX13_addLocker_120 ?_
  refine k_acopy B (in_of qlRX13_138) (in_of qnat_copy) (in_of qs_copy) (in_of qz_System) h5 h6 (by decide) h7 (by decide) h8 h9 (Nat.le_of_ble_eq_true rfl) (Nat.le_of_ble_eq_true rfl) dX13_addLocker_121 ?_
  refine k_aload_n B 1 rfl rfl dX13_addLocker_124 ?_
  refine k_dup B rfl dX13_addLocker_125 ?_
  refine k_getI (f := 906) (v := gI S 906 v0) B 14 10 rfl (by decide) rfl (by decide) rfl rfl (fun w h => in_of (uw_14 w h)) (in_of qfRX13_111) dX13_addLocker_126 h1 rfl ?_
  refine k_iconst (v := 1) B (by decide) dX13_addLocker_129 ?_
  refine k_iadd B dX13_addLocker_130 ?_
  refine k_putI (f := 906) B 14 10 rfl (by decide) rfl (by decide) rfl rfl (fun w h => in_of (uw_14 w h)) (in_of qfRX13_111) tyX13 tyX13_ok nmX13 rfl (tyX13_ok 10 (by decide)) dX13_addLocker_131 h1 ?_
  refine k_aload_n B 1 rfl rfl dX13_addLocker_134 ?_
  refine k_getI (f := 906) (v := (gI S 906 v0) + 1) B 14 10 rfl (by decide) rfl (by decide) rfl rfl (fun w h => in_of (uw_14 w h)) (in_of qfRX13_111) dX13_addLocker_135 h1 (by simp [kd_sI, kd_sP, kd_sRI, kd_sRP, kd_nw, gI_sI, gI_sP, gI_sRI, gI_sRP, gI_nw, gP_sI, gP_sP, gP_sRI, gP_sRP, gP_nw, ln_sI, ln_sP, ln_sRI, ln_sRP, ln_nw, rI_sI, rI_sP, rI_sRI, rI_sRP, rI_nw, rP_sI, rP_sP, rP_sRI, rP_sRP, rP_nw, va_up_self]) ?_
  refine k_iconst (v := 1) B (by decide) dX13_addLocker_138 ?_
  refine k_isub B dX13_addLocker_139 ?_
  exact ret_I B rfl dX13_addLocker_140 (hq)
theorem bX13_addVan_0 (B : Bd p s m args meth c cX13_addVan 4 (wsOf yX13_addVan cX13_addVan 4 (some .int)) RX13 w (some .int) "addVan") {v0 : Nat} {v1 : Int32} {v2 : Int32} {v3 : Int32} {post : Int32 → St → Prop} {Q : State → Prop} (h1 : kd S v0 = 15) (hc : ConI l yX13_isIn (wsOf yX13_isIn cX13_isIn 3 (some .boolean)) rX13_isIn w (sI S 896 v0 0) [.int v1, .int 10, .int 200] post) (kk : ∀ (r : Int32) (S' : St), post r S' → K p l e rX13_addVan s m args below meth c 4 w 0 0 Q S' 14 [(0, .ref v0), (1, .int v1), (2, .int v2), (3, .int v3)] [.int r]) : K p l e rX13_addVan s m args below meth c 4 w 0 0 Q S 0 [(0, .ref v0), (1, .int v1), (2, .int v2), (3, .int v3)] [] := by
  refine k_aload_n B 0 rfl rfl dX13_addVan_0 ?_
  refine k_iconst (v := 0) B (by decide) dX13_addVan_1 ?_
  refine k_putI (f := 896) B 14 0 rfl (by decide) rfl (by decide) rfl rfl (fun w h => in_of (uw_14 w h)) (in_of qfRX13_95) tyX13 tyX13_ok nmX13 rfl (tyX13_ok 0 (by decide)) dX13_addVan_2 h1 ?_
  refine k_iload_n B 1 rfl rfl dX13_addVan_5 ?_
  refine k_bipush (v := 10) B (by decide) dX13_addVan_6 ?_
  refine k_sipush (v := 200) B (by decide) dX13_addVan_8 ?_
  refine callS_I (st := []) B [.int v1, .int 10, .int 200] (hc) (va_cwS 3 B.1.2.2.2.2 (gS qlRX13_98 qsX13_isIn qzRX13 qcX13_isIn) rfl rfl rfl (by decide +kernel) ⟨Nat.le_of_ble_eq_true rfl, Nat.le_of_ble_eq_true rfl⟩) rfl (Nat.le_of_ble_eq_true rfl) rfl dX13_addVan_11 ⟨Nat.le_of_ble_eq_true rfl, Nat.le_of_ble_eq_true rfl⟩ (fun r S' hp => ?_)
  exact kk r S' hp
theorem bX13_addVan_14 (B : Bd p s m args meth c cX13_addVan 4 (wsOf yX13_addVan cX13_addVan 4 (some .int)) RX13 w (some .int) "addVan") {v0 : Nat} {v1 : Int32} {v2 : Int32} {v3 : Int32} {t0 : Int32} {Q : State → Prop}  (kt : t0 = 0 → K p l e rX13_addVan s m args below meth c 4 w 0 0 Q S 39 [(0, .ref v0)] []) (kf : ¬ t0 = 0 → K p l e rX13_addVan s m args below meth c 4 w 0 0 Q S 17 [(0, .ref v0), (1, .int v1), (2, .int v2), (3, .int v3)] []) : K p l e rX13_addVan s m args below meth c 4 w 0 0 Q S 14 [(0, .ref v0), (1, .int v1), (2, .int v2), (3, .int v3)] [.int t0] := by
  refine k_if_eq (tgt := 39) B dX13_addVan_14 (by decide) (fun c => ?_) (fun c => ?_)
  · refine k_sub [0] rfl ?_
    exact kt c
  · exact kf c
theorem bX13_addVan_17 (B : Bd p s m args meth c cX13_addVan 4 (wsOf yX13_addVan cX13_addVan 4 (some .int)) RX13 w (some .int) "addVan") {v0 : Nat} {v1 : Int32} {v2 : Int32} {v3 : Int32} {post : Int32 → St → Prop} {Q : State → Prop} (hc : ConI l yX13_isIn (wsOf yX13_isIn cX13_isIn 3 (some .boolean)) rX13_isIn w S [.int v2, .int 0, .int 1439] post) (kk : ∀ (r : Int32) (S' : St), post r S' → K p l e rX13_addVan s m args below meth c 4 w 0 0 Q S' 25 [(0, .ref v0), (1, .int v1), (2, .int v2), (3, .int v3)] [.int r]) : K p l e rX13_addVan s m args below meth c 4 w 0 0 Q S 17 [(0, .ref v0), (1, .int v1), (2, .int v2), (3, .int v3)] [] := by
  refine k_iload_n B 2 rfl rfl dX13_addVan_17 ?_
  refine k_iconst (v := 0) B (by decide) dX13_addVan_18 ?_
  refine k_sipush (v := 1439) B (by decide) dX13_addVan_19 ?_
  refine callS_I (st := []) B [.int v2, .int 0, .int 1439] (hc) (va_cwS 3 B.1.2.2.2.2 (gS qlRX13_98 qsX13_isIn qzRX13 qcX13_isIn) rfl rfl rfl (by decide +kernel) ⟨Nat.le_of_ble_eq_true rfl, Nat.le_of_ble_eq_true rfl⟩) rfl (Nat.le_of_ble_eq_true rfl) rfl dX13_addVan_22 ⟨Nat.le_of_ble_eq_true rfl, Nat.le_of_ble_eq_true rfl⟩ (fun r S' hp => ?_)
  exact kk r S' hp
theorem bX13_addVan_25 (B : Bd p s m args meth c cX13_addVan 4 (wsOf yX13_addVan cX13_addVan 4 (some .int)) RX13 w (some .int) "addVan") {v0 : Nat} {v1 : Int32} {v2 : Int32} {v3 : Int32} {t0 : Int32} {Q : State → Prop}  (kt : t0 = 0 → K p l e rX13_addVan s m args below meth c 4 w 0 0 Q S 39 [(0, .ref v0)] []) (kf : ¬ t0 = 0 → K p l e rX13_addVan s m args below meth c 4 w 0 0 Q S 28 [(0, .ref v0), (1, .int v1), (2, .int v2), (3, .int v3)] []) : K p l e rX13_addVan s m args below meth c 4 w 0 0 Q S 25 [(0, .ref v0), (1, .int v1), (2, .int v2), (3, .int v3)] [.int t0] := by
  refine k_if_eq (tgt := 39) B dX13_addVan_25 (by decide) (fun c => ?_) (fun c => ?_)
  · refine k_sub [0] rfl ?_
    exact kt c
  · exact kf c
theorem bX13_addVan_28 (B : Bd p s m args meth c cX13_addVan 4 (wsOf yX13_addVan cX13_addVan 4 (some .int)) RX13 w (some .int) "addVan") {v0 : Nat} {v1 : Int32} {v2 : Int32} {v3 : Int32} {post : Int32 → St → Prop} {Q : State → Prop} (hc : ConI l yX13_isIn (wsOf yX13_isIn cX13_isIn 3 (some .boolean)) rX13_isIn w S [.int v3, .int v2, .int 1439] post) (kk : ∀ (r : Int32) (S' : St), post r S' → K p l e rX13_addVan s m args below meth c 4 w 0 0 Q S' 36 [(0, .ref v0), (1, .int v1), (2, .int v2), (3, .int v3)] [.int r]) : K p l e rX13_addVan s m args below meth c 4 w 0 0 Q S 28 [(0, .ref v0), (1, .int v1), (2, .int v2), (3, .int v3)] [] := by
  refine k_iload_n B 3 rfl rfl dX13_addVan_28 ?_
  refine k_iload_n B 2 rfl rfl dX13_addVan_29 ?_
  refine k_sipush (v := 1439) B (by decide) dX13_addVan_30 ?_
  refine callS_I (st := []) B [.int v3, .int v2, .int 1439] (hc) (va_cwS 3 B.1.2.2.2.2 (gS qlRX13_98 qsX13_isIn qzRX13 qcX13_isIn) rfl rfl rfl (by decide +kernel) ⟨Nat.le_of_ble_eq_true rfl, Nat.le_of_ble_eq_true rfl⟩) rfl (Nat.le_of_ble_eq_true rfl) rfl dX13_addVan_33 ⟨Nat.le_of_ble_eq_true rfl, Nat.le_of_ble_eq_true rfl⟩ (fun r S' hp => ?_)
  exact kk r S' hp
theorem bX13_addVan_36 (B : Bd p s m args meth c cX13_addVan 4 (wsOf yX13_addVan cX13_addVan 4 (some .int)) RX13 w (some .int) "addVan") {v0 : Nat} {v1 : Int32} {v2 : Int32} {v3 : Int32} {t0 : Int32} {Q : State → Prop}  (kt : ¬ t0 = 0 → K p l e rX13_addVan s m args below meth c 4 w 0 0 Q S 45 [(0, .ref v0), (1, .int v1), (2, .int v2), (3, .int v3)] []) (kf : t0 = 0 → K p l e rX13_addVan s m args below meth c 4 w 0 0 Q S 39 [(0, .ref v0)] []) : K p l e rX13_addVan s m args below meth c 4 w 0 0 Q S 36 [(0, .ref v0), (1, .int v1), (2, .int v2), (3, .int v3)] [.int t0] := by
  refine k_if_ne (tgt := 45) B dX13_addVan_36 (by decide) (fun c => ?_) (fun c => ?_)
  · exact kt c
  · refine k_sub [0] rfl ?_
    exact kf c
theorem bX13_addVan_39 (B : Bd p s m args meth c cX13_addVan 4 (wsOf yX13_addVan cX13_addVan 4 (some .int)) RX13 w (some .int) "addVan") {v0 : Nat} {post : Int32 → St → Prop} {Q : State → Prop} (hc : ConI l yX13_no (wsOf yX13_no cX13_no 2 (some .int)) rX13_no w S [.ref v0, .int 1] post) (h1 : kd S v0 = 15) (kk : ∀ (r : Int32) (S' : St), post r S' → K p l e rX13_addVan s m args below meth c 4 w 0 0 Q S' 44 [] [.int r]) : K p l e rX13_addVan s m args below meth c 4 w 0 0 Q S 39 [(0, .ref v0)] [] := by
  refine k_aload_n B 0 rfl rfl dX13_addVan_39 ?_
  refine k_iconst (v := 1) B (by decide) dX13_addVan_40 ?_
  refine callV_I (st := []) B [.int 1] (hc) (cwV 1 B.1.2.2.2.2 (gV qlRX13_120 qiX13_no qeX13_no qzRX13 qcX13_no) rfl rfl rfl (by decide +kernel) ⟨Nat.le_of_ble_eq_true rfl, Nat.le_of_ble_eq_true rfl⟩) rfl rfl (by decide) h1 (Nat.le_of_ble_eq_true rfl) rfl dX13_addVan_41 ⟨Nat.le_of_ble_eq_true rfl, Nat.le_of_ble_eq_true rfl⟩ (fun r S' hp => ?_)
  refine k_sub [] rfl ?_
  exact kk r S' hp
theorem bX13_addVan_44 (B : Bd p s m args meth c cX13_addVan 4 (wsOf yX13_addVan cX13_addVan 4 (some .int)) RX13 w (some .int) "addVan") {t0 : Int32} {post : Int32 → St → Prop}  (hq : post t0 S) : K p l e rX13_addVan s m args below meth c 4 w 0 0 (MQ below (va_Qi post (fun S' t => Hd w S' t.heap) (wA w)) args s 0 0 (wA w)) S 44 [] [.int t0] := by
  exact ret_I B rfl dX13_addVan_44 (hq)
theorem bX13_addVan_45 (B : Bd p s m args meth c cX13_addVan 4 (wsOf yX13_addVan cX13_addVan 4 (some .int)) RX13 w (some .int) "addVan") {v0 : Nat} {v1 : Int32} {v2 : Int32} {v3 : Int32} {Q : State → Prop} (h1 : kd S v0 = 15) (kt : ¬ (gI S 909 v0) = 4 → K p l e rX13_addVan s m args below meth c 4 w 0 0 Q S 59 [(0, .ref v0), (1, .int v1), (2, .int v2), (3, .int v3)] []) (kf : (gI S 909 v0) = 4 → K p l e rX13_addVan s m args below meth c 4 w 0 0 Q S 53 [(0, .ref v0)] []) : K p l e rX13_addVan s m args below meth c 4 w 0 0 Q S 45 [(0, .ref v0), (1, .int v1), (2, .int v2), (3, .int v3)] [] := by
  refine k_aload_n B 0 rfl rfl dX13_addVan_45 ?_
  refine k_getI (f := 909) (v := gI S 909 v0) B 14 13 rfl (by decide) rfl (by decide) rfl rfl (fun w h => in_of (uw_14 w h)) (in_of qfRX13_114) dX13_addVan_46 h1 rfl ?_
  refine k_iconst (v := 4) B (by decide) dX13_addVan_49 ?_
  refine k_icmp_ne (tgt := 59) B dX13_addVan_50 (by decide) (fun c => ?_) (fun c => ?_)
  · exact kt c
  · refine k_sub [0] rfl ?_
    exact kf c
theorem bX13_addVan_53 (B : Bd p s m args meth c cX13_addVan 4 (wsOf yX13_addVan cX13_addVan 4 (some .int)) RX13 w (some .int) "addVan") {v0 : Nat} {post : Int32 → St → Prop} {Q : State → Prop} (hc : ConI l yX13_no (wsOf yX13_no cX13_no 2 (some .int)) rX13_no w S [.ref v0, .int 2] post) (h1 : kd S v0 = 15) (kk : ∀ (r : Int32) (S' : St), post r S' → K p l e rX13_addVan s m args below meth c 4 w 0 0 Q S' 58 [] [.int r]) : K p l e rX13_addVan s m args below meth c 4 w 0 0 Q S 53 [(0, .ref v0)] [] := by
  refine k_aload_n B 0 rfl rfl dX13_addVan_53 ?_
  refine k_iconst (v := 2) B (by decide) dX13_addVan_54 ?_
  refine callV_I (st := []) B [.int 2] (hc) (cwV 1 B.1.2.2.2.2 (gV qlRX13_120 qiX13_no qeX13_no qzRX13 qcX13_no) rfl rfl rfl (by decide +kernel) ⟨Nat.le_of_ble_eq_true rfl, Nat.le_of_ble_eq_true rfl⟩) rfl rfl (by decide) h1 (Nat.le_of_ble_eq_true rfl) rfl dX13_addVan_55 ⟨Nat.le_of_ble_eq_true rfl, Nat.le_of_ble_eq_true rfl⟩ (fun r S' hp => ?_)
  refine k_sub [] rfl ?_
  exact kk r S' hp
theorem bX13_addVan_58 (B : Bd p s m args meth c cX13_addVan 4 (wsOf yX13_addVan cX13_addVan 4 (some .int)) RX13 w (some .int) "addVan") {t0 : Int32} {post : Int32 → St → Prop}  (hq : post t0 S) : K p l e rX13_addVan s m args below meth c 4 w 0 0 (MQ below (va_Qi post (fun S' t => Hd w S' t.heap) (wA w)) args s 0 0 (wA w)) S 58 [] [.int t0] := by
  exact ret_I B rfl dX13_addVan_58 (hq)
theorem bX13_addVan_59 (B : Bd p s m args meth c cX13_addVan 4 (wsOf yX13_addVan cX13_addVan 4 (some .int)) RX13 w (some .int) "addVan") {v0 : Nat} {v1 : Int32} {v2 : Int32} {v3 : Int32} {x1 : Nat} {Q : State → Prop} (h1 : kd S v0 = 15) (h2 : gP S 910 v0 = some x1) (h3 : kd S x1 = 21) (h4 : vp_in (gI S 909 v0) (ln S x1)) (kk : K p l e rX13_addVan s m args below meth c 4 w 0 0 Q (sRI S x1 (va_up (rI S x1) (gI S 909 v0).toNatClampNeg v1)) 69 [(0, .ref v0), (2, .int v2), (3, .int v3)] []) : K p l e rX13_addVan s m args below meth c 4 w 0 0 Q S 59 [(0, .ref v0), (1, .int v1), (2, .int v2), (3, .int v3)] [] := by
  refine k_aload_n B 0 rfl rfl dX13_addVan_59 ?_
  refine k_getP (f := 910) (r := gP S 910 v0) B 14 14 rfl (by decide) rfl (by decide) rfl rfl (fun w h => in_of (uw_14 w h)) (in_of qfRX13_41) dX13_addVan_60 h1 rfl ?_
  rw [h2]; change K _ _ _ _ _ _ _ _ _ _ _ _ _ _ _ _ _ _ (.ref x1 :: _)
  refine k_aload_n B 0 rfl rfl dX13_addVan_63 ?_
  refine k_getI (f := 909) (v := gI S 909 v0) B 14 13 rfl (by decide) rfl (by decide) rfl rfl (fun w h => in_of (uw_14 w h)) (in_of qfRX13_114) dX13_addVan_64 h1 rfl ?_
  refine k_iload_n B 1 rfl rfl dX13_addVan_67 ?_
  refine k_iast (g := rI S x1) (S' := sRI S x1 (va_up (rI S x1) (gI S 909 v0).toNatClampNeg v1)) B dX13_addVan_68 h3 h4 rfl rfl ?_
  refine k_sub [0, 2, 3] rfl ?_
  exact kk
theorem bX13_addVan_69 (B : Bd p s m args meth c cX13_addVan 4 (wsOf yX13_addVan cX13_addVan 4 (some .int)) RX13 w (some .int) "addVan") {v0 : Nat} {v2 : Int32} {v3 : Int32} {x1 : Nat} {Q : State → Prop} (h1 : kd S v0 = 15) (h2 : gP S 911 v0 = some x1) (h3 : kd S x1 = 21) (h4 : vp_in (gI S 909 v0) (ln S x1)) (kk : K p l e rX13_addVan s m args below meth c 4 w 0 0 Q (sRI S x1 (va_up (rI S x1) (gI S 909 v0).toNatClampNeg v2)) 79 [(0, .ref v0), (3, .int v3)] []) : K p l e rX13_addVan s m args below meth c 4 w 0 0 Q S 69 [(0, .ref v0), (2, .int v2), (3, .int v3)] [] := by
  refine k_aload_n B 0 rfl rfl dX13_addVan_69 ?_
  refine k_getP (f := 911) (r := gP S 911 v0) B 14 15 rfl (by decide) rfl (by decide) rfl rfl (fun w h => in_of (uw_14 w h)) (in_of qfRX13_44) dX13_addVan_70 h1 rfl ?_
  rw [h2]; change K _ _ _ _ _ _ _ _ _ _ _ _ _ _ _ _ _ _ (.ref x1 :: _)
  refine k_aload_n B 0 rfl rfl dX13_addVan_73 ?_
  refine k_getI (f := 909) (v := gI S 909 v0) B 14 13 rfl (by decide) rfl (by decide) rfl rfl (fun w h => in_of (uw_14 w h)) (in_of qfRX13_114) dX13_addVan_74 h1 rfl ?_
  refine k_iload_n B 1 rfl rfl dX13_addVan_77 ?_
  refine k_iast (g := rI S x1) (S' := sRI S x1 (va_up (rI S x1) (gI S 909 v0).toNatClampNeg v2)) B dX13_addVan_78 h3 h4 rfl rfl ?_
  refine k_sub [0, 2] rfl ?_
  exact kk
theorem bX13_addVan_79 (B : Bd p s m args meth c cX13_addVan 4 (wsOf yX13_addVan cX13_addVan 4 (some .int)) RX13 w (some .int) "addVan") {v0 : Nat} {v3 : Int32} {x1 : Nat} {Q : State → Prop} (h1 : kd S v0 = 15) (h2 : gP S 912 v0 = some x1) (h3 : kd S x1 = 21) (h4 : vp_in (gI S 909 v0) (ln S x1)) (kk : K p l e rX13_addVan s m args below meth c 4 w 0 0 Q (sRI S x1 (va_up (rI S x1) (gI S 909 v0).toNatClampNeg v3)) 89 [(0, .ref v0)] []) : K p l e rX13_addVan s m args below meth c 4 w 0 0 Q S 79 [(0, .ref v0), (3, .int v3)] [] := by
  refine k_aload_n B 0 rfl rfl dX13_addVan_79 ?_
  refine k_getP (f := 912) (r := gP S 912 v0) B 14 16 rfl (by decide) rfl (by decide) rfl rfl (fun w h => in_of (uw_14 w h)) (in_of qfRX13_47) dX13_addVan_80 h1 rfl ?_
  rw [h2]; change K _ _ _ _ _ _ _ _ _ _ _ _ _ _ _ _ _ _ (.ref x1 :: _)
  refine k_aload_n B 0 rfl rfl dX13_addVan_83 ?_
  refine k_getI (f := 909) (v := gI S 909 v0) B 14 13 rfl (by decide) rfl (by decide) rfl rfl (fun w h => in_of (uw_14 w h)) (in_of qfRX13_114) dX13_addVan_84 h1 rfl ?_
  refine k_iload_n B 1 rfl rfl dX13_addVan_87 ?_
  refine k_iast (g := rI S x1) (S' := sRI S x1 (va_up (rI S x1) (gI S 909 v0).toNatClampNeg v3)) B dX13_addVan_88 h3 h4 rfl rfl ?_
  refine k_sub [0] rfl ?_
  exact kk
theorem bX13_addVan_89 (B : Bd p s m args meth c cX13_addVan 4 (wsOf yX13_addVan cX13_addVan 4 (some .int)) RX13 w (some .int) "addVan") {v0 : Nat} {post : Int32 → St → Prop} (h1 : kd S v0 = 15) (hq : post (((gI S 909 v0) + 1) - 1) (sI S 909 v0 ((gI S 909 v0) + 1))) : K p l e rX13_addVan s m args below meth c 4 w 0 0 (MQ below (va_Qi post (fun S' t => Hd w S' t.heap) (wA w)) args s 0 0 (wA w)) S 89 [(0, .ref v0)] [] := by
  refine k_aload_n B 0 rfl rfl dX13_addVan_89 ?_
  refine k_dup B rfl dX13_addVan_90 ?_
  refine k_getI (f := 909) (v := gI S 909 v0) B 14 13 rfl (by decide) rfl (by decide) rfl rfl (fun w h => in_of (uw_14 w h)) (in_of qfRX13_114) dX13_addVan_91 h1 rfl ?_
  refine k_iconst (v := 1) B (by decide) dX13_addVan_94 ?_
  refine k_iadd B dX13_addVan_95 ?_
  refine k_putI (f := 909) B 14 13 rfl (by decide) rfl (by decide) rfl rfl (fun w h => in_of (uw_14 w h)) (in_of qfRX13_114) tyX13 tyX13_ok nmX13 rfl (tyX13_ok 13 (by decide)) dX13_addVan_96 h1 ?_
  refine k_aload_n B 0 rfl rfl dX13_addVan_99 ?_
  refine k_getI (f := 909) (v := (gI S 909 v0) + 1) B 14 13 rfl (by decide) rfl (by decide) rfl rfl (fun w h => in_of (uw_14 w h)) (in_of qfRX13_114) dX13_addVan_100 h1 (by simp [kd_sI, kd_sP, kd_sRI, kd_sRP, kd_nw, gI_sI, gI_sP, gI_sRI, gI_sRP, gI_nw, gP_sI, gP_sP, gP_sRI, gP_sRP, gP_nw, ln_sI, ln_sP, ln_sRI, ln_sRP, ln_nw, rI_sI, rI_sP, rI_sRI, rI_sRP, rI_nw, rP_sI, rP_sP, rP_sRI, rP_sRP, rP_nw, va_up_self]) ?_
  refine k_iconst (v := 1) B (by decide) dX13_addVan_103 ?_
  refine k_isub B dX13_addVan_104 ?_
  exact ret_I B rfl dX13_addVan_105 (hq)
theorem bX13_addParcel_0 (B : Bd p s m args meth c cX13_addParcel 6 (wsOf yX13_addParcel cX13_addParcel 6 (some .int)) RX13 w (some .int) "addParcel") {v0 : Nat} {v1 : Int32} {v2 : Int32} {v3 : Int32} {v4 : Int32} {v5 : Int32} {post : Int32 → St → Prop} {Q : State → Prop} (h1 : kd S v0 = 15) (hc : ConI l yX13_isIn (wsOf yX13_isIn cX13_isIn 3 (some .boolean)) rX13_isIn w (sI S 896 v0 0) [.int v1, .int 0, .int 2] post) (kk : ∀ (r : Int32) (S' : St), post r S' → K p l e rX13_addParcel s m args below meth c 6 w 0 0 Q S' 11 [(0, .ref v0), (1, .int v1), (2, .int v2), (3, .int v3), (4, .int v4), (5, .int v5)] [.int r]) : K p l e rX13_addParcel s m args below meth c 6 w 0 0 Q S 0 [(0, .ref v0), (1, .int v1), (2, .int v2), (3, .int v3), (4, .int v4), (5, .int v5)] [] := by
  refine k_aload_n B 0 rfl rfl dX13_addParcel_0 ?_
  refine k_iconst (v := 0) B (by decide) dX13_addParcel_1 ?_
  refine k_putI (f := 896) B 14 0 rfl (by decide) rfl (by decide) rfl rfl (fun w h => in_of (uw_14 w h)) (in_of qfRX13_95) tyX13 tyX13_ok nmX13 rfl (tyX13_ok 0 (by decide)) dX13_addParcel_2 h1 ?_
  refine k_iload_n B 1 rfl rfl dX13_addParcel_5 ?_
  refine k_iconst (v := 0) B (by decide) dX13_addParcel_6 ?_
  refine k_iconst (v := 2) B (by decide) dX13_addParcel_7 ?_
  refine callS_I (st := []) B [.int v1, .int 0, .int 2] (hc) (va_cwS 3 B.1.2.2.2.2 (gS qlRX13_98 qsX13_isIn qzRX13 qcX13_isIn) rfl rfl rfl (by decide +kernel) ⟨Nat.le_of_ble_eq_true rfl, Nat.le_of_ble_eq_true rfl⟩) rfl (Nat.le_of_ble_eq_true rfl) rfl dX13_addParcel_8 ⟨Nat.le_of_ble_eq_true rfl, Nat.le_of_ble_eq_true rfl⟩ (fun r S' hp => ?_)
  exact kk r S' hp
theorem bX13_addParcel_11 (B : Bd p s m args meth c cX13_addParcel 6 (wsOf yX13_addParcel cX13_addParcel 6 (some .int)) RX13 w (some .int) "addParcel") {v0 : Nat} {v1 : Int32} {v2 : Int32} {v3 : Int32} {v4 : Int32} {v5 : Int32} {t0 : Int32} {Q : State → Prop}  (kt : t0 = 0 → K p l e rX13_addParcel s m args below meth c 6 w 0 0 Q S 49 [(0, .ref v0)] []) (kf : ¬ t0 = 0 → K p l e rX13_addParcel s m args below meth c 6 w 0 0 Q S 14 [(0, .ref v0), (1, .int v1), (2, .int v2), (3, .int v3), (4, .int v4), (5, .int v5)] []) : K p l e rX13_addParcel s m args below meth c 6 w 0 0 Q S 11 [(0, .ref v0), (1, .int v1), (2, .int v2), (3, .int v3), (4, .int v4), (5, .int v5)] [.int t0] := by
  refine k_if_eq (tgt := 49) B dX13_addParcel_11 (by decide) (fun c => ?_) (fun c => ?_)
  · refine k_sub [0] rfl ?_
    exact kt c
  · exact kf c
theorem bX13_addParcel_14 (B : Bd p s m args meth c cX13_addParcel 6 (wsOf yX13_addParcel cX13_addParcel 6 (some .int)) RX13 w (some .int) "addParcel") {v0 : Nat} {v1 : Int32} {v2 : Int32} {v3 : Int32} {v4 : Int32} {v5 : Int32} {post : Int32 → St → Prop} {Q : State → Prop} (hc : ConI l yX13_isIn (wsOf yX13_isIn cX13_isIn 3 (some .boolean)) rX13_isIn w S [.int v2, .int 1, .int 40] post) (kk : ∀ (r : Int32) (S' : St), post r S' → K p l e rX13_addParcel s m args below meth c 6 w 0 0 Q S' 21 [(0, .ref v0), (1, .int v1), (2, .int v2), (3, .int v3), (4, .int v4), (5, .int v5)] [.int r]) : K p l e rX13_addParcel s m args below meth c 6 w 0 0 Q S 14 [(0, .ref v0), (1, .int v1), (2, .int v2), (3, .int v3), (4, .int v4), (5, .int v5)] [] := by
  refine k_iload_n B 2 rfl rfl dX13_addParcel_14 ?_
  refine k_iconst (v := 1) B (by decide) dX13_addParcel_15 ?_
  refine k_bipush (v := 40) B (by decide) dX13_addParcel_16 ?_
  refine callS_I (st := []) B [.int v2, .int 1, .int 40] (hc) (va_cwS 3 B.1.2.2.2.2 (gS qlRX13_98 qsX13_isIn qzRX13 qcX13_isIn) rfl rfl rfl (by decide +kernel) ⟨Nat.le_of_ble_eq_true rfl, Nat.le_of_ble_eq_true rfl⟩) rfl (Nat.le_of_ble_eq_true rfl) rfl dX13_addParcel_18 ⟨Nat.le_of_ble_eq_true rfl, Nat.le_of_ble_eq_true rfl⟩ (fun r S' hp => ?_)
  exact kk r S' hp
theorem bX13_addParcel_21 (B : Bd p s m args meth c cX13_addParcel 6 (wsOf yX13_addParcel cX13_addParcel 6 (some .int)) RX13 w (some .int) "addParcel") {v0 : Nat} {v1 : Int32} {v2 : Int32} {v3 : Int32} {v4 : Int32} {v5 : Int32} {t0 : Int32} {Q : State → Prop}  (kt : t0 = 0 → K p l e rX13_addParcel s m args below meth c 6 w 0 0 Q S 49 [(0, .ref v0)] []) (kf : ¬ t0 = 0 → K p l e rX13_addParcel s m args below meth c 6 w 0 0 Q S 24 [(0, .ref v0), (1, .int v1), (2, .int v2), (3, .int v3), (4, .int v4), (5, .int v5)] []) : K p l e rX13_addParcel s m args below meth c 6 w 0 0 Q S 21 [(0, .ref v0), (1, .int v1), (2, .int v2), (3, .int v3), (4, .int v4), (5, .int v5)] [.int t0] := by
  refine k_if_eq (tgt := 49) B dX13_addParcel_21 (by decide) (fun c => ?_) (fun c => ?_)
  · refine k_sub [0] rfl ?_
    exact kt c
  · exact kf c
theorem bX13_addParcel_24 (B : Bd p s m args meth c cX13_addParcel 6 (wsOf yX13_addParcel cX13_addParcel 6 (some .int)) RX13 w (some .int) "addParcel") {v0 : Nat} {v1 : Int32} {v2 : Int32} {v3 : Int32} {v4 : Int32} {v5 : Int32} {post : Int32 → St → Prop} {Q : State → Prop} (hc : ConI l yX13_isIn (wsOf yX13_isIn cX13_isIn 3 (some .boolean)) rX13_isIn w S [.int v4, .int 0, .int 1439] post) (kk : ∀ (r : Int32) (S' : St), post r S' → K p l e rX13_addParcel s m args below meth c 6 w 0 0 Q S' 33 [(0, .ref v0), (1, .int v1), (2, .int v2), (3, .int v3), (4, .int v4), (5, .int v5)] [.int r]) : K p l e rX13_addParcel s m args below meth c 6 w 0 0 Q S 24 [(0, .ref v0), (1, .int v1), (2, .int v2), (3, .int v3), (4, .int v4), (5, .int v5)] [] := by
  refine k_iload B 4 rfl dX13_addParcel_24 ?_
  refine k_iconst (v := 0) B (by decide) dX13_addParcel_26 ?_
  refine k_sipush (v := 1439) B (by decide) dX13_addParcel_27 ?_
  refine callS_I (st := []) B [.int v4, .int 0, .int 1439] (hc) (va_cwS 3 B.1.2.2.2.2 (gS qlRX13_98 qsX13_isIn qzRX13 qcX13_isIn) rfl rfl rfl (by decide +kernel) ⟨Nat.le_of_ble_eq_true rfl, Nat.le_of_ble_eq_true rfl⟩) rfl (Nat.le_of_ble_eq_true rfl) rfl dX13_addParcel_30 ⟨Nat.le_of_ble_eq_true rfl, Nat.le_of_ble_eq_true rfl⟩ (fun r S' hp => ?_)
  exact kk r S' hp
theorem bX13_addParcel_33 (B : Bd p s m args meth c cX13_addParcel 6 (wsOf yX13_addParcel cX13_addParcel 6 (some .int)) RX13 w (some .int) "addParcel") {v0 : Nat} {v1 : Int32} {v2 : Int32} {v3 : Int32} {v4 : Int32} {v5 : Int32} {t0 : Int32} {Q : State → Prop}  (kt : t0 = 0 → K p l e rX13_addParcel s m args below meth c 6 w 0 0 Q S 49 [(0, .ref v0)] []) (kf : ¬ t0 = 0 → K p l e rX13_addParcel s m args below meth c 6 w 0 0 Q S 36 [(0, .ref v0), (1, .int v1), (2, .int v2), (3, .int v3), (4, .int v4), (5, .int v5)] []) : K p l e rX13_addParcel s m args below meth c 6 w 0 0 Q S 33 [(0, .ref v0), (1, .int v1), (2, .int v2), (3, .int v3), (4, .int v4), (5, .int v5)] [.int t0] := by
  refine k_if_eq (tgt := 49) B dX13_addParcel_33 (by decide) (fun c => ?_) (fun c => ?_)
  · refine k_sub [0] rfl ?_
    exact kt c
  · exact kf c
theorem bX13_addParcel_36 (B : Bd p s m args meth c cX13_addParcel 6 (wsOf yX13_addParcel cX13_addParcel 6 (some .int)) RX13 w (some .int) "addParcel") {v0 : Nat} {v1 : Int32} {v2 : Int32} {v3 : Int32} {v4 : Int32} {v5 : Int32} {post : Int32 → St → Prop} {Q : State → Prop} (hc : ConI l yX13_isIn (wsOf yX13_isIn cX13_isIn 3 (some .boolean)) rX13_isIn w S [.int v5, .int v4, .int 1439] post) (kk : ∀ (r : Int32) (S' : St), post r S' → K p l e rX13_addParcel s m args below meth c 6 w 0 0 Q S' 46 [(0, .ref v0), (1, .int v1), (2, .int v2), (3, .int v3), (4, .int v4), (5, .int v5)] [.int r]) : K p l e rX13_addParcel s m args below meth c 6 w 0 0 Q S 36 [(0, .ref v0), (1, .int v1), (2, .int v2), (3, .int v3), (4, .int v4), (5, .int v5)] [] := by
  refine k_iload B 5 rfl dX13_addParcel_36 ?_
  refine k_iload B 4 rfl dX13_addParcel_38 ?_
  refine k_sipush (v := 1439) B (by decide) dX13_addParcel_40 ?_
  refine callS_I (st := []) B [.int v5, .int v4, .int 1439] (hc) (va_cwS 3 B.1.2.2.2.2 (gS qlRX13_98 qsX13_isIn qzRX13 qcX13_isIn) rfl rfl rfl (by decide +kernel) ⟨Nat.le_of_ble_eq_true rfl, Nat.le_of_ble_eq_true rfl⟩) rfl (Nat.le_of_ble_eq_true rfl) rfl dX13_addParcel_43 ⟨Nat.le_of_ble_eq_true rfl, Nat.le_of_ble_eq_true rfl⟩ (fun r S' hp => ?_)
  exact kk r S' hp
theorem bX13_addParcel_46 (B : Bd p s m args meth c cX13_addParcel 6 (wsOf yX13_addParcel cX13_addParcel 6 (some .int)) RX13 w (some .int) "addParcel") {v0 : Nat} {v1 : Int32} {v2 : Int32} {v3 : Int32} {v4 : Int32} {v5 : Int32} {t0 : Int32} {Q : State → Prop}  (kt : ¬ t0 = 0 → K p l e rX13_addParcel s m args below meth c 6 w 0 0 Q S 55 [(0, .ref v0), (1, .int v1), (2, .int v2), (3, .int v3), (4, .int v4), (5, .int v5)] []) (kf : t0 = 0 → K p l e rX13_addParcel s m args below meth c 6 w 0 0 Q S 49 [(0, .ref v0)] []) : K p l e rX13_addParcel s m args below meth c 6 w 0 0 Q S 46 [(0, .ref v0), (1, .int v1), (2, .int v2), (3, .int v3), (4, .int v4), (5, .int v5)] [.int t0] := by
  refine k_if_ne (tgt := 55) B dX13_addParcel_46 (by decide) (fun c => ?_) (fun c => ?_)
  · exact kt c
  · refine k_sub [0] rfl ?_
    exact kf c
theorem bX13_addParcel_49 (B : Bd p s m args meth c cX13_addParcel 6 (wsOf yX13_addParcel cX13_addParcel 6 (some .int)) RX13 w (some .int) "addParcel") {v0 : Nat} {post : Int32 → St → Prop} {Q : State → Prop} (hc : ConI l yX13_no (wsOf yX13_no cX13_no 2 (some .int)) rX13_no w S [.ref v0, .int 1] post) (h1 : kd S v0 = 15) (kk : ∀ (r : Int32) (S' : St), post r S' → K p l e rX13_addParcel s m args below meth c 6 w 0 0 Q S' 54 [] [.int r]) : K p l e rX13_addParcel s m args below meth c 6 w 0 0 Q S 49 [(0, .ref v0)] [] := by
  refine k_aload_n B 0 rfl rfl dX13_addParcel_49 ?_
  refine k_iconst (v := 1) B (by decide) dX13_addParcel_50 ?_
  refine callV_I (st := []) B [.int 1] (hc) (cwV 1 B.1.2.2.2.2 (gV qlRX13_120 qiX13_no qeX13_no qzRX13 qcX13_no) rfl rfl rfl (by decide +kernel) ⟨Nat.le_of_ble_eq_true rfl, Nat.le_of_ble_eq_true rfl⟩) rfl rfl (by decide) h1 (Nat.le_of_ble_eq_true rfl) rfl dX13_addParcel_51 ⟨Nat.le_of_ble_eq_true rfl, Nat.le_of_ble_eq_true rfl⟩ (fun r S' hp => ?_)
  refine k_sub [] rfl ?_
  exact kk r S' hp
theorem bX13_addParcel_54 (B : Bd p s m args meth c cX13_addParcel 6 (wsOf yX13_addParcel cX13_addParcel 6 (some .int)) RX13 w (some .int) "addParcel") {t0 : Int32} {post : Int32 → St → Prop}  (hq : post t0 S) : K p l e rX13_addParcel s m args below meth c 6 w 0 0 (MQ below (va_Qi post (fun S' t => Hd w S' t.heap) (wA w)) args s 0 0 (wA w)) S 54 [] [.int t0] := by
  exact ret_I B rfl dX13_addParcel_54 (hq)
theorem bX13_addParcel_55 (B : Bd p s m args meth c cX13_addParcel 6 (wsOf yX13_addParcel cX13_addParcel 6 (some .int)) RX13 w (some .int) "addParcel") {v0 : Nat} {v1 : Int32} {v2 : Int32} {v3 : Int32} {v4 : Int32} {v5 : Int32} {post : Int32 → St → Prop} {Q : State → Prop} (hc : ConI l yX13_isHomeNumber (wsOf yX13_isHomeNumber cX13_isHomeNumber 2 (some .boolean)) rX13_isHomeNumber w S [.ref v0, .int v3] post) (h1 : kd S v0 = 15) (kk : ∀ (r : Int32) (S' : St), post r S' → K p l e rX13_addParcel s m args below meth c 6 w 0 0 Q S' 60 [(0, .ref v0), (1, .int v1), (2, .int v2), (3, .int v3), (4, .int v4), (5, .int v5)] [.int r]) : K p l e rX13_addParcel s m args below meth c 6 w 0 0 Q S 55 [(0, .ref v0), (1, .int v1), (2, .int v2), (3, .int v3), (4, .int v4), (5, .int v5)] [] := by
  refine k_aload_n B 0 rfl rfl dX13_addParcel_55 ?_
  refine k_iload_n B 3 rfl rfl dX13_addParcel_56 ?_
  refine callV_I (st := []) B [.int v3] (hc) (cwV 1 B.1.2.2.2.2 (gV qlRX13_128 qiX13_isHomeNumber qeX13_isHomeNumber qzRX13 qcX13_isHomeNumber) rfl rfl rfl (by decide +kernel) ⟨Nat.le_of_ble_eq_true rfl, Nat.le_of_ble_eq_true rfl⟩) rfl rfl (by decide) h1 (Nat.le_of_ble_eq_true rfl) rfl dX13_addParcel_57 ⟨Nat.le_of_ble_eq_true rfl, Nat.le_of_ble_eq_true rfl⟩ (fun r S' hp => ?_)
  exact kk r S' hp
theorem bX13_addParcel_60 (B : Bd p s m args meth c cX13_addParcel 6 (wsOf yX13_addParcel cX13_addParcel 6 (some .int)) RX13 w (some .int) "addParcel") {v0 : Nat} {v1 : Int32} {v2 : Int32} {v3 : Int32} {v4 : Int32} {v5 : Int32} {t0 : Int32} {Q : State → Prop}  (kt : ¬ t0 = 0 → K p l e rX13_addParcel s m args below meth c 6 w 0 0 Q S 69 [(0, .ref v0), (1, .int v1), (2, .int v2), (3, .int v3), (4, .int v4), (5, .int v5)] []) (kf : t0 = 0 → K p l e rX13_addParcel s m args below meth c 6 w 0 0 Q S 63 [(0, .ref v0)] []) : K p l e rX13_addParcel s m args below meth c 6 w 0 0 Q S 60 [(0, .ref v0), (1, .int v1), (2, .int v2), (3, .int v3), (4, .int v4), (5, .int v5)] [.int t0] := by
  refine k_if_ne (tgt := 69) B dX13_addParcel_60 (by decide) (fun c => ?_) (fun c => ?_)
  · exact kt c
  · refine k_sub [0] rfl ?_
    exact kf c
theorem bX13_addParcel_63 (B : Bd p s m args meth c cX13_addParcel 6 (wsOf yX13_addParcel cX13_addParcel 6 (some .int)) RX13 w (some .int) "addParcel") {v0 : Nat} {post : Int32 → St → Prop} {Q : State → Prop} (hc : ConI l yX13_no (wsOf yX13_no cX13_no 2 (some .int)) rX13_no w S [.ref v0, .int 2] post) (h1 : kd S v0 = 15) (kk : ∀ (r : Int32) (S' : St), post r S' → K p l e rX13_addParcel s m args below meth c 6 w 0 0 Q S' 68 [] [.int r]) : K p l e rX13_addParcel s m args below meth c 6 w 0 0 Q S 63 [(0, .ref v0)] [] := by
  refine k_aload_n B 0 rfl rfl dX13_addParcel_63 ?_
  refine k_iconst (v := 2) B (by decide) dX13_addParcel_64 ?_
  refine callV_I (st := []) B [.int 2] (hc) (cwV 1 B.1.2.2.2.2 (gV qlRX13_120 qiX13_no qeX13_no qzRX13 qcX13_no) rfl rfl rfl (by decide +kernel) ⟨Nat.le_of_ble_eq_true rfl, Nat.le_of_ble_eq_true rfl⟩) rfl rfl (by decide) h1 (Nat.le_of_ble_eq_true rfl) rfl dX13_addParcel_65 ⟨Nat.le_of_ble_eq_true rfl, Nat.le_of_ble_eq_true rfl⟩ (fun r S' hp => ?_)
  refine k_sub [] rfl ?_
  exact kk r S' hp
theorem bX13_addParcel_68 (B : Bd p s m args meth c cX13_addParcel 6 (wsOf yX13_addParcel cX13_addParcel 6 (some .int)) RX13 w (some .int) "addParcel") {t0 : Int32} {post : Int32 → St → Prop}  (hq : post t0 S) : K p l e rX13_addParcel s m args below meth c 6 w 0 0 (MQ below (va_Qi post (fun S' t => Hd w S' t.heap) (wA w)) args s 0 0 (wA w)) S 68 [] [.int t0] := by
  exact ret_I B rfl dX13_addParcel_68 (hq)
theorem bX13_addParcel_69 (B : Bd p s m args meth c cX13_addParcel 6 (wsOf yX13_addParcel cX13_addParcel 6 (some .int)) RX13 w (some .int) "addParcel") {v0 : Nat} {v1 : Int32} {v2 : Int32} {v3 : Int32} {v4 : Int32} {v5 : Int32} {Q : State → Prop} (h1 : kd S v0 = 15) (kt : ¬ (gI S 913 v0) = 30 → K p l e rX13_addParcel s m args below meth c 6 w 0 0 Q S 84 [(0, .ref v0), (1, .int v1), (2, .int v2), (3, .int v3), (4, .int v4), (5, .int v5)] []) (kf : (gI S 913 v0) = 30 → K p l e rX13_addParcel s m args below meth c 6 w 0 0 Q S 78 [(0, .ref v0)] []) : K p l e rX13_addParcel s m args below meth c 6 w 0 0 Q S 69 [(0, .ref v0), (1, .int v1), (2, .int v2), (3, .int v3), (4, .int v4), (5, .int v5)] [] := by
  refine k_aload_n B 0 rfl rfl dX13_addParcel_69 ?_
  refine k_getI (f := 913) (v := gI S 913 v0) B 14 17 rfl (by decide) rfl (by decide) rfl rfl (fun w h => in_of (uw_14 w h)) (in_of qfRX13_117) dX13_addParcel_70 h1 rfl ?_
  refine k_bipush (v := 30) B (by decide) dX13_addParcel_73 ?_
  refine k_icmp_ne (tgt := 84) B dX13_addParcel_75 (by decide) (fun c => ?_) (fun c => ?_)
  · exact kt c
  · refine k_sub [0] rfl ?_
    exact kf c
theorem bX13_addParcel_78 (B : Bd p s m args meth c cX13_addParcel 6 (wsOf yX13_addParcel cX13_addParcel 6 (some .int)) RX13 w (some .int) "addParcel") {v0 : Nat} {post : Int32 → St → Prop} {Q : State → Prop} (hc : ConI l yX13_no (wsOf yX13_no cX13_no 2 (some .int)) rX13_no w S [.ref v0, .int 3] post) (h1 : kd S v0 = 15) (kk : ∀ (r : Int32) (S' : St), post r S' → K p l e rX13_addParcel s m args below meth c 6 w 0 0 Q S' 83 [] [.int r]) : K p l e rX13_addParcel s m args below meth c 6 w 0 0 Q S 78 [(0, .ref v0)] [] := by
  refine k_aload_n B 0 rfl rfl dX13_addParcel_78 ?_
  refine k_iconst (v := 3) B (by decide) dX13_addParcel_79 ?_
  refine callV_I (st := []) B [.int 3] (hc) (cwV 1 B.1.2.2.2.2 (gV qlRX13_120 qiX13_no qeX13_no qzRX13 qcX13_no) rfl rfl rfl (by decide +kernel) ⟨Nat.le_of_ble_eq_true rfl, Nat.le_of_ble_eq_true rfl⟩) rfl rfl (by decide) h1 (Nat.le_of_ble_eq_true rfl) rfl dX13_addParcel_80 ⟨Nat.le_of_ble_eq_true rfl, Nat.le_of_ble_eq_true rfl⟩ (fun r S' hp => ?_)
  refine k_sub [] rfl ?_
  exact kk r S' hp
theorem bX13_addParcel_83 (B : Bd p s m args meth c cX13_addParcel 6 (wsOf yX13_addParcel cX13_addParcel 6 (some .int)) RX13 w (some .int) "addParcel") {t0 : Int32} {post : Int32 → St → Prop}  (hq : post t0 S) : K p l e rX13_addParcel s m args below meth c 6 w 0 0 (MQ below (va_Qi post (fun S' t => Hd w S' t.heap) (wA w)) args s 0 0 (wA w)) S 83 [] [.int t0] := by
  exact ret_I B rfl dX13_addParcel_83 (hq)
theorem bX13_addParcel_84 (B : Bd p s m args meth c cX13_addParcel 6 (wsOf yX13_addParcel cX13_addParcel 6 (some .int)) RX13 w (some .int) "addParcel") {v0 : Nat} {v1 : Int32} {v2 : Int32} {v3 : Int32} {v4 : Int32} {v5 : Int32} {x1 : Nat} {Q : State → Prop} (h1 : kd S v0 = 15) (h2 : gP S 914 v0 = some x1) (h3 : kd S x1 = 21) (h4 : vp_in (gI S 913 v0) (ln S x1)) (kk : K p l e rX13_addParcel s m args below meth c 6 w 0 0 Q (sRI S x1 (va_up (rI S x1) (gI S 913 v0).toNatClampNeg v1)) 94 [(0, .ref v0), (2, .int v2), (3, .int v3), (4, .int v4), (5, .int v5)] []) : K p l e rX13_addParcel s m args below meth c 6 w 0 0 Q S 84 [(0, .ref v0), (1, .int v1), (2, .int v2), (3, .int v3), (4, .int v4), (5, .int v5)] [] := by
  refine k_aload_n B 0 rfl rfl dX13_addParcel_84 ?_
  refine k_getP (f := 914) (r := gP S 914 v0) B 14 18 rfl (by decide) rfl (by decide) rfl rfl (fun w h => in_of (uw_14 w h)) (in_of qfRX13_50) dX13_addParcel_85 h1 rfl ?_
  rw [h2]; change K _ _ _ _ _ _ _ _ _ _ _ _ _ _ _ _ _ _ (.ref x1 :: _)
  refine k_aload_n B 0 rfl rfl dX13_addParcel_88 ?_
  refine k_getI (f := 913) (v := gI S 913 v0) B 14 17 rfl (by decide) rfl (by decide) rfl rfl (fun w h => in_of (uw_14 w h)) (in_of qfRX13_117) dX13_addParcel_89 h1 rfl ?_
  refine k_iload_n B 1 rfl rfl dX13_addParcel_92 ?_
  refine k_iast (g := rI S x1) (S' := sRI S x1 (va_up (rI S x1) (gI S 913 v0).toNatClampNeg v1)) B dX13_addParcel_93 h3 h4 rfl rfl ?_
  refine k_sub [0, 2, 3, 4, 5] rfl ?_
  exact kk
theorem bX13_addParcel_94 (B : Bd p s m args meth c cX13_addParcel 6 (wsOf yX13_addParcel cX13_addParcel 6 (some .int)) RX13 w (some .int) "addParcel") {v0 : Nat} {v2 : Int32} {v3 : Int32} {v4 : Int32} {v5 : Int32} {x1 : Nat} {Q : State → Prop} (h1 : kd S v0 = 15) (h2 : gP S 915 v0 = some x1) (h3 : kd S x1 = 21) (h4 : vp_in (gI S 913 v0) (ln S x1)) (kk : K p l e rX13_addParcel s m args below meth c 6 w 0 0 Q (sRI S x1 (va_up (rI S x1) (gI S 913 v0).toNatClampNeg v2)) 104 [(0, .ref v0), (3, .int v3), (4, .int v4), (5, .int v5)] []) : K p l e rX13_addParcel s m args below meth c 6 w 0 0 Q S 94 [(0, .ref v0), (2, .int v2), (3, .int v3), (4, .int v4), (5, .int v5)] [] := by
  refine k_aload_n B 0 rfl rfl dX13_addParcel_94 ?_
  refine k_getP (f := 915) (r := gP S 915 v0) B 14 19 rfl (by decide) rfl (by decide) rfl rfl (fun w h => in_of (uw_14 w h)) (in_of qfRX13_53) dX13_addParcel_95 h1 rfl ?_
  rw [h2]; change K _ _ _ _ _ _ _ _ _ _ _ _ _ _ _ _ _ _ (.ref x1 :: _)
  refine k_aload_n B 0 rfl rfl dX13_addParcel_98 ?_
  refine k_getI (f := 913) (v := gI S 913 v0) B 14 17 rfl (by decide) rfl (by decide) rfl rfl (fun w h => in_of (uw_14 w h)) (in_of qfRX13_117) dX13_addParcel_99 h1 rfl ?_
  refine k_iload_n B 1 rfl rfl dX13_addParcel_102 ?_
  refine k_iast (g := rI S x1) (S' := sRI S x1 (va_up (rI S x1) (gI S 913 v0).toNatClampNeg v2)) B dX13_addParcel_103 h3 h4 rfl rfl ?_
  refine k_sub [0, 2, 3, 4] rfl ?_
  exact kk
theorem bX13_addParcel_104 (B : Bd p s m args meth c cX13_addParcel 6 (wsOf yX13_addParcel cX13_addParcel 6 (some .int)) RX13 w (some .int) "addParcel") {v0 : Nat} {v3 : Int32} {v4 : Int32} {v5 : Int32} {x1 : Nat} {Q : State → Prop} (h1 : kd S v0 = 15) (h2 : gP S 916 v0 = some x1) (h3 : kd S x1 = 21) (h4 : vp_in (gI S 913 v0) (ln S x1)) (kk : K p l e rX13_addParcel s m args below meth c 6 w 0 0 Q (sRI S x1 (va_up (rI S x1) (gI S 913 v0).toNatClampNeg v3)) 114 [(0, .ref v0), (4, .int v4), (5, .int v5)] []) : K p l e rX13_addParcel s m args below meth c 6 w 0 0 Q S 104 [(0, .ref v0), (3, .int v3), (4, .int v4), (5, .int v5)] [] := by
  refine k_aload_n B 0 rfl rfl dX13_addParcel_104 ?_
  refine k_getP (f := 916) (r := gP S 916 v0) B 14 20 rfl (by decide) rfl (by decide) rfl rfl (fun w h => in_of (uw_14 w h)) (in_of qfRX13_56) dX13_addParcel_105 h1 rfl ?_
  rw [h2]; change K _ _ _ _ _ _ _ _ _ _ _ _ _ _ _ _ _ _ (.ref x1 :: _)
  refine k_aload_n B 0 rfl rfl dX13_addParcel_108 ?_
  refine k_getI (f := 913) (v := gI S 913 v0) B 14 17 rfl (by decide) rfl (by decide) rfl rfl (fun w h => in_of (uw_14 w h)) (in_of qfRX13_117) dX13_addParcel_109 h1 rfl ?_
  refine k_iload_n B 1 rfl rfl dX13_addParcel_112 ?_
  refine k_iast (g := rI S x1) (S' := sRI S x1 (va_up (rI S x1) (gI S 913 v0).toNatClampNeg v3)) B dX13_addParcel_113 h3 h4 rfl rfl ?_
  refine k_sub [0, 2, 3] rfl ?_
  exact kk
theorem bX13_addParcel_114 (B : Bd p s m args meth c cX13_addParcel 6 (wsOf yX13_addParcel cX13_addParcel 6 (some .int)) RX13 w (some .int) "addParcel") {v0 : Nat} {v4 : Int32} {v5 : Int32} {x1 : Nat} {Q : State → Prop} (h1 : kd S v0 = 15) (h2 : gP S 917 v0 = some x1) (h3 : kd S x1 = 21) (h4 : vp_in (gI S 913 v0) (ln S x1)) (kk : K p l e rX13_addParcel s m args below meth c 6 w 0 0 Q (sRI S x1 (va_up (rI S x1) (gI S 913 v0).toNatClampNeg v4)) 125 [(0, .ref v0), (5, .int v5)] []) : K p l e rX13_addParcel s m args below meth c 6 w 0 0 Q S 114 [(0, .ref v0), (4, .int v4), (5, .int v5)] [] := by
  refine k_aload_n B 0 rfl rfl dX13_addParcel_114 ?_
  refine k_getP (f := 917) (r := gP S 917 v0) B 14 21 rfl (by decide) rfl (by decide) rfl rfl (fun w h => in_of (uw_14 w h)) (in_of qfRX13_59) dX13_addParcel_115 h1 rfl ?_
  rw [h2]; change K _ _ _ _ _ _ _ _ _ _ _ _ _ _ _ _ _ _ (.ref x1 :: _)
  refine k_aload_n B 0 rfl rfl dX13_addParcel_118 ?_
  refine k_getI (f := 913) (v := gI S 913 v0) B 14 17 rfl (by decide) rfl (by decide) rfl rfl (fun w h => in_of (uw_14 w h)) (in_of qfRX13_117) dX13_addParcel_119 h1 rfl ?_
  refine k_iload B 1 rfl dX13_addParcel_122 ?_
  refine k_iast (g := rI S x1) (S' := sRI S x1 (va_up (rI S x1) (gI S 913 v0).toNatClampNeg v4)) B dX13_addParcel_124 h3 h4 rfl rfl ?_
  refine k_sub [0, 2] rfl ?_
  exact kk
theorem bX13_addParcel_125 (B : Bd p s m args meth c cX13_addParcel 6 (wsOf yX13_addParcel cX13_addParcel 6 (some .int)) RX13 w (some .int) "addParcel") {v0 : Nat} {v5 : Int32} {x1 : Nat} {Q : State → Prop} (h1 : kd S v0 = 15) (h2 : gP S 918 v0 = some x1) (h3 : kd S x1 = 21) (h4 : vp_in (gI S 913 v0) (ln S x1)) (kk : K p l e rX13_addParcel s m args below meth c 6 w 0 0 Q (sRI S x1 (va_up (rI S x1) (gI S 913 v0).toNatClampNeg v5)) 136 [(0, .ref v0)] []) : K p l e rX13_addParcel s m args below meth c 6 w 0 0 Q S 125 [(0, .ref v0), (5, .int v5)] [] := by
  refine k_aload_n B 0 rfl rfl dX13_addParcel_125 ?_
  refine k_getP (f := 918) (r := gP S 918 v0) B 14 22 rfl (by decide) rfl (by decide) rfl rfl (fun w h => in_of (uw_14 w h)) (in_of qfRX13_62) dX13_addParcel_126 h1 rfl ?_
  rw [h2]; change K _ _ _ _ _ _ _ _ _ _ _ _ _ _ _ _ _ _ (.ref x1 :: _)
  refine k_aload_n B 0 rfl rfl dX13_addParcel_129 ?_
  refine k_getI (f := 913) (v := gI S 913 v0) B 14 17 rfl (by decide) rfl (by decide) rfl rfl (fun w h => in_of (uw_14 w h)) (in_of qfRX13_117) dX13_addParcel_130 h1 rfl ?_
  refine k_iload B 1 rfl dX13_addParcel_133 ?_
  refine k_iast (g := rI S x1) (S' := sRI S x1 (va_up (rI S x1) (gI S 913 v0).toNatClampNeg v5)) B dX13_addParcel_135 h3 h4 rfl rfl ?_
  refine k_sub [0] rfl ?_
  exact kk
theorem bX13_addParcel_136 (B : Bd p s m args meth c cX13_addParcel 6 (wsOf yX13_addParcel cX13_addParcel 6 (some .int)) RX13 w (some .int) "addParcel") {v0 : Nat} {x1 : Nat} {x2 : Nat} {Q : State → Prop} (h1 : kd S v0 = 15) (h2 : gP S 919 v0 = some x1) (h3 : kd S x1 = 14) (h4 : gP S 836 x1 = some x2) (h5 : kd S x2 = 21) (h6 : vp_in (gI S 913 v0) (ln S x2)) (kk : K p l e rX13_addParcel s m args below meth c 6 w 0 0 Q (sRI S x2 (va_up (rI S x2) (gI S 913 v0).toNatClampNeg (-1))) 149 [(0, .ref v0)] []) : K p l e rX13_addParcel s m args below meth c 6 w 0 0 Q S 136 [(0, .ref v0)] [] := by
  refine k_aload_n B 0 rfl rfl dX13_addParcel_136 ?_
  refine k_getP (f := 919) (r := gP S 919 v0) B 14 23 rfl (by decide) rfl (by decide) rfl rfl (fun w h => in_of (uw_14 w h)) (in_of qfRX13_70) dX13_addParcel_137 h1 rfl ?_
  rw [h2]; change K _ _ _ _ _ _ _ _ _ _ _ _ _ _ _ _ _ _ (.ref x1 :: _)
  refine k_getPN (f := 836) (r := gP S 836 x1) B 13 4 rfl (by decide) rfl (by decide) rfl rfl (fun w h => in_of (uw_13 w h)) "LastMileModel" (nzF_2 B.2.2.2.1.2.2.2.1) dX13_addParcel_140 h3 rfl ?_
  rw [h4]; change K _ _ _ _ _ _ _ _ _ _ _ _ _ _ _ _ _ _ (.ref x2 :: _)
  refine k_aload_n B 0 rfl rfl dX13_addParcel_143 ?_
  refine k_getI (f := 913) (v := gI S 913 v0) B 14 17 rfl (by decide) rfl (by decide) rfl rfl (fun w h => in_of (uw_14 w h)) (in_of qfRX13_117) dX13_addParcel_144 h1 rfl ?_
  refine k_iconst (v := (-1)) B (by decide) dX13_addParcel_147 ?_
  refine k_iast (g := rI S x2) (S' := sRI S x2 (va_up (rI S x2) (gI S 913 v0).toNatClampNeg (-1))) B dX13_addParcel_148 h5 h6 rfl rfl ?_
  exact kk
theorem bX13_addParcel_149 (B : Bd p s m args meth c cX13_addParcel 6 (wsOf yX13_addParcel cX13_addParcel 6 (some .int)) RX13 w (some .int) "addParcel") {v0 : Nat} {post : Int32 → St → Prop} (h1 : kd S v0 = 15) (hq : post (((gI S 913 v0) + 1) - 1) (sI S 913 v0 ((gI S 913 v0) + 1))) : K p l e rX13_addParcel s m args below meth c 6 w 0 0 (MQ below (va_Qi post (fun S' t => Hd w S' t.heap) (wA w)) args s 0 0 (wA w)) S 149 [(0, .ref v0)] [] := by
  refine k_aload_n B 0 rfl rfl dX13_addParcel_149 ?_
  refine k_dup B rfl dX13_addParcel_150 ?_
  refine k_getI (f := 913) (v := gI S 913 v0) B 14 17 rfl (by decide) rfl (by decide) rfl rfl (fun w h => in_of (uw_14 w h)) (in_of qfRX13_117) dX13_addParcel_151 h1 rfl ?_
  refine k_iconst (v := 1) B (by decide) dX13_addParcel_154 ?_
  refine k_iadd B dX13_addParcel_155 ?_
  refine k_putI (f := 913) B 14 17 rfl (by decide) rfl (by decide) rfl rfl (fun w h => in_of (uw_14 w h)) (in_of qfRX13_117) tyX13 tyX13_ok nmX13 rfl (tyX13_ok 17 (by decide)) dX13_addParcel_156 h1 ?_
  refine k_aload_n B 0 rfl rfl dX13_addParcel_159 ?_
  refine k_getI (f := 913) (v := (gI S 913 v0) + 1) B 14 17 rfl (by decide) rfl (by decide) rfl rfl (fun w h => in_of (uw_14 w h)) (in_of qfRX13_117) dX13_addParcel_160 h1 (by simp [kd_sI, kd_sP, kd_sRI, kd_sRP, kd_nw, gI_sI, gI_sP, gI_sRI, gI_sRP, gI_nw, gP_sI, gP_sP, gP_sRI, gP_sRP, gP_nw, ln_sI, ln_sP, ln_sRI, ln_sRP, ln_nw, rI_sI, rI_sP, rI_sRI, rI_sRP, rI_nw, rP_sI, rP_sP, rP_sRI, rP_sRP, rP_nw, va_up_self]) ?_
  refine k_iconst (v := 1) B (by decide) dX13_addParcel_163 ?_
  refine k_isub B dX13_addParcel_164 ?_
  exact ret_I B rfl dX13_addParcel_165 (hq)
theorem bX13_homeTold_0 (B : Bd p s m args meth c cX13_homeTold 6 (wsOf yX13_homeTold cX13_homeTold 6 (some .int)) RX13 w (some .int) "homeTold") {v0 : Nat} {v1 : Int32} {v2 : Int32} {k n : Nat} {Q : State → Prop}  (kk : K p l e rX13_homeTold s m args below meth c 6 w k n Q S 8 [(0, .ref v0), (1, .int v1), (2, .int v2), (3, .int 0), (4, .int 0), (5, .int 0)] []) : K p l e rX13_homeTold s m args below meth c 6 w k n Q S 0 [(0, .ref v0), (1, .int v1), (2, .int v2)] [] := by
  refine k_iconst (v := 0) B (by decide) dX13_homeTold_0 ?_
  refine k_istore_n (lst' := [(3, .int 0), (0, .ref v0), (1, .int v1), (2, .int v2)]) B rfl (by decide) rfl dX13_homeTold_1 ?_
  refine k_iconst (v := 0) B (by decide) dX13_homeTold_2 ?_
  refine k_istore (lst' := [(4, .int 0), (3, .int 0), (0, .ref v0), (1, .int v1), (2, .int v2)]) B (by decide) rfl dX13_homeTold_3 ?_
  refine k_iconst (v := 0) B (by decide) dX13_homeTold_5 ?_
  refine k_istore (lst' := [(5, .int 0), (4, .int 0), (3, .int 0), (0, .ref v0), (1, .int v1), (2, .int v2)]) B (by decide) rfl dX13_homeTold_6 ?_
  refine k_sub [3, 4, 5, 2, 1, 0] rfl ?_
  exact kk
theorem bX13_homeTold_8 (B : Bd p s m args meth c cX13_homeTold 6 (wsOf yX13_homeTold cX13_homeTold 6 (some .int)) RX13 w (some .int) "homeTold") {v0 : Nat} {v1 : Int32} {v2 : Int32} {v3 : Int32} {v4 : Int32} {v5 : Int32} {k n : Nat} {Q : State → Prop} (h1 : kd S v0 = 15) (kt : (gI S 913 v0) ≤ v5 → K p l e rX13_homeTold s m args below meth c 6 w k n Q S 93 [(0, .ref v0), (1, .int v1), (2, .int v2), (3, .int v3), (4, .int v4)] []) (kf : ¬ (gI S 913 v0) ≤ v5 → K p l e rX13_homeTold s m args below meth c 6 w k n Q S 17 [(0, .ref v0), (1, .int v1), (2, .int v2), (3, .int v3), (4, .int v4), (5, .int v5)] []) : K p l e rX13_homeTold s m args below meth c 6 w k n Q S 8 [(0, .ref v0), (1, .int v1), (2, .int v2), (3, .int v3), (4, .int v4), (5, .int v5)] [] := by
  refine k_iload B 5 rfl dX13_homeTold_8 ?_
  refine k_aload_n B 0 rfl rfl dX13_homeTold_10 ?_
  refine k_getI (f := 913) (v := gI S 913 v0) B 14 17 rfl (by decide) rfl (by decide) rfl rfl (fun w h => in_of (uw_14 w h)) (in_of qfRX13_117) dX13_homeTold_11 h1 rfl ?_
  refine k_icmp_ge (tgt := 93) B dX13_homeTold_14 (by decide) (fun c => ?_) (fun c => ?_)
  · refine k_sub [0, 1, 2, 3, 4] rfl ?_
    exact kt c
  · exact kf c
theorem bX13_homeTold_17 (B : Bd p s m args meth c cX13_homeTold 6 (wsOf yX13_homeTold cX13_homeTold 6 (some .int)) RX13 w (some .int) "homeTold") {v0 : Nat} {v1 : Int32} {v2 : Int32} {v3 : Int32} {v4 : Int32} {v5 : Int32} {x1 : Nat} {k n : Nat} {Q : State → Prop} (h1 : kd S v0 = 15) (h2 : gP S 916 v0 = some x1) (h3 : kd S x1 = 21) (h4 : vp_in v5 (ln S x1)) (kt : ¬ ((rI S x1) v5.toNatClampNeg) = v1 → K p l e rX13_homeTold s m args below meth c 6 w k n Q S 46 [(0, .ref v0), (1, .int v1), (2, .int v2), (4, .int v4), (5, .int v5)] [.int v3]) (kf : ((rI S x1) v5.toNatClampNeg) = v1 → K p l e rX13_homeTold s m args below meth c 6 w k n Q S 29 [(0, .ref v0), (1, .int v1), (2, .int v2), (4, .int v4), (5, .int v5)] [.int v3]) : K p l e rX13_homeTold s m args below meth c 6 w k n Q S 17 [(0, .ref v0), (1, .int v1), (2, .int v2), (3, .int v3), (4, .int v4), (5, .int v5)] [] := by
  refine k_iload_n B 3 rfl rfl dX13_homeTold_17 ?_
  refine k_aload_n B 0 rfl rfl dX13_homeTold_18 ?_
  refine k_getP (f := 916) (r := gP S 916 v0) B 14 20 rfl (by decide) rfl (by decide) rfl rfl (fun w h => in_of (uw_14 w h)) (in_of qfRX13_56) dX13_homeTold_19 h1 rfl ?_
  rw [h2]; change K _ _ _ _ _ _ _ _ _ _ _ _ _ _ _ _ _ _ (.ref x1 :: _)
  refine k_iload B 5 rfl dX13_homeTold_22 ?_
  refine k_iald (v := (rI S x1) v5.toNatClampNeg) B dX13_homeTold_24 h3 h4 rfl ?_
  refine k_iload_n B 1 rfl rfl dX13_homeTold_25 ?_
  refine k_icmp_ne (tgt := 46) B dX13_homeTold_26 (by decide) (fun c => ?_) (fun c => ?_)
  · refine k_sub [0, 1, 2, 4, 5] rfl ?_
    exact kt c
  · refine k_sub [0, 1, 2, 4, 5] rfl ?_
    exact kf c
theorem bX13_homeTold_29 (B : Bd p s m args meth c cX13_homeTold 6 (wsOf yX13_homeTold cX13_homeTold 6 (some .int)) RX13 w (some .int) "homeTold") {v0 : Nat} {v1 : Int32} {v2 : Int32} {v4 : Int32} {v5 : Int32} {t0 : Int32} {x1 : Nat} {x2 : Nat} {k n : Nat} {Q : State → Prop} (h1 : kd S v0 = 15) (h2 : gP S 919 v0 = some x1) (h3 : kd S x1 = 14) (h4 : gP S 834 x1 = some x2) (h5 : kd S x2 = 21) (h6 : vp_in v5 (ln S x2)) (kt : ¬ ((rI S x2) v5.toNatClampNeg) = 0 → K p l e rX13_homeTold s m args below meth c 6 w k n Q S 46 [(0, .ref v0), (1, .int v1), (2, .int v2), (4, .int v4), (5, .int v5)] [.int t0]) (kf : ((rI S x2) v5.toNatClampNeg) = 0 → K p l e rX13_homeTold s m args below meth c 6 w k n Q S 42 [(0, .ref v0), (1, .int v1), (2, .int v2), (4, .int v4), (5, .int v5)] [.int t0]) : K p l e rX13_homeTold s m args below meth c 6 w k n Q S 29 [(0, .ref v0), (1, .int v1), (2, .int v2), (4, .int v4), (5, .int v5)] [.int t0] := by
  refine k_aload_n B 0 rfl rfl dX13_homeTold_29 ?_
  refine k_getP (f := 919) (r := gP S 919 v0) B 14 23 rfl (by decide) rfl (by decide) rfl rfl (fun w h => in_of (uw_14 w h)) (in_of qfRX13_70) dX13_homeTold_30 h1 rfl ?_
  rw [h2]; change K _ _ _ _ _ _ _ _ _ _ _ _ _ _ _ _ _ _ (.ref x1 :: _)
  refine k_getPN (f := 834) (r := gP S 834 x1) B 13 2 rfl (by decide) rfl (by decide) rfl rfl (fun w h => in_of (uw_13 w h)) "LastMileModel" (nzF_3 B.2.2.2.1.2.2.2.1) dX13_homeTold_33 h3 rfl ?_
  rw [h4]; change K _ _ _ _ _ _ _ _ _ _ _ _ _ _ _ _ _ _ (.ref x2 :: _)
  refine k_iload B 4 rfl dX13_homeTold_36 ?_
  refine k_iald (v := (rI S x2) v5.toNatClampNeg) B dX13_homeTold_38 h5 h6 rfl ?_
  refine k_if_ne (tgt := 46) B dX13_homeTold_39 (by decide) (fun c => ?_) (fun c => ?_)
  · exact kt c
  · exact kf c
theorem bX13_homeTold_42 (B : Bd p s m args meth c cX13_homeTold 6 (wsOf yX13_homeTold cX13_homeTold 6 (some .int)) RX13 w (some .int) "homeTold") {v0 : Nat} {v1 : Int32} {v2 : Int32} {v4 : Int32} {v5 : Int32} {t0 : Int32} {k n : Nat} {Q : State → Prop}  (kk : K p l e rX13_homeTold s m args below meth c 6 w k n Q S 47 [(0, .ref v0), (1, .int v1), (2, .int v2), (4, .int v4), (5, .int v5)] [.int 1, .int t0]) : K p l e rX13_homeTold s m args below meth c 6 w k n Q S 42 [(0, .ref v0), (1, .int v1), (2, .int v2), (4, .int v4), (5, .int v5)] [.int t0] := by
  refine k_iconst (v := 1) B (by decide) dX13_homeTold_42 ?_
  refine k_goto (tgt := 47) B dX13_homeTold_43 (by decide) ?_
  exact kk
theorem bX13_homeTold_46 (B : Bd p s m args meth c cX13_homeTold 6 (wsOf yX13_homeTold cX13_homeTold 6 (some .int)) RX13 w (some .int) "homeTold") {v0 : Nat} {v1 : Int32} {v2 : Int32} {v4 : Int32} {v5 : Int32} {t0 : Int32} {k n : Nat} {Q : State → Prop}  (kk : K p l e rX13_homeTold s m args below meth c 6 w k n Q S 47 [(0, .ref v0), (1, .int v1), (2, .int v2), (4, .int v4), (5, .int v5)] [.int 0, .int t0]) : K p l e rX13_homeTold s m args below meth c 6 w k n Q S 46 [(0, .ref v0), (1, .int v1), (2, .int v2), (4, .int v4), (5, .int v5)] [.int t0] := by
  refine k_iconst (v := 0) B (by decide) dX13_homeTold_46 ?_
  exact kk
theorem bX13_homeTold_47 (B : Bd p s m args meth c cX13_homeTold 6 (wsOf yX13_homeTold cX13_homeTold 6 (some .int)) RX13 w (some .int) "homeTold") {v0 : Nat} {v1 : Int32} {v2 : Int32} {v4 : Int32} {v5 : Int32} {t0 : Int32} {t1 : Int32} {x1 : Nat} {x2 : Nat} {k n : Nat} {Q : State → Prop} (h1 : kd S v0 = 15) (h2 : gP S 919 v0 = some x1) (h3 : kd S x1 = 14) (h4 : gP S 834 x1 = some x2) (h5 : kd S x2 = 21) (h6 : vp_in v5 (ln S x2)) (kt : ¬ ((rI S x2) v5.toNatClampNeg) = 3 → K p l e rX13_homeTold s m args below meth c 6 w k n Q S 83 [(0, .ref v0), (1, .int v1), (2, .int v2), (3, .int (t0 + t1)), (5, .int v5)] [.int v4]) (kf : ((rI S x2) v5.toNatClampNeg) = 3 → K p l e rX13_homeTold s m args below meth c 6 w k n Q S 65 [(0, .ref v0), (1, .int v1), (2, .int v2), (3, .int (t0 + t1)), (5, .int v5)] [.int v4]) : K p l e rX13_homeTold s m args below meth c 6 w k n Q S 47 [(0, .ref v0), (1, .int v1), (2, .int v2), (4, .int v4), (5, .int v5)] [.int t1, .int t0] := by
  refine k_iadd B dX13_homeTold_47 ?_
  refine k_istore_n (lst' := [(3, .int (t0 + t1)), (0, .ref v0), (1, .int v1), (2, .int v2), (4, .int v4), (5, .int v5)]) B rfl (by decide) rfl dX13_homeTold_48 ?_
  refine k_iload B 4 rfl dX13_homeTold_49 ?_
  refine k_aload_n B 1 rfl rfl dX13_homeTold_51 ?_
  refine k_getP (f := 919) (r := gP S 919 v0) B 14 23 rfl (by decide) rfl (by decide) rfl rfl (fun w h => in_of (uw_14 w h)) (in_of qfRX13_70) dX13_homeTold_52 h1 rfl ?_
  rw [h2]; change K _ _ _ _ _ _ _ _ _ _ _ _ _ _ _ _ _ _ (.ref x1 :: _)
  refine k_getPN (f := 834) (r := gP S 834 x1) B 13 2 rfl (by decide) rfl (by decide) rfl rfl (fun w h => in_of (uw_13 w h)) "LastMileModel" (nzF_3 B.2.2.2.1.2.2.2.1) dX13_homeTold_55 h3 rfl ?_
  rw [h4]; change K _ _ _ _ _ _ _ _ _ _ _ _ _ _ _ _ _ _ (.ref x2 :: _)
  refine k_iload B 5 rfl dX13_homeTold_58 ?_
  refine k_iald (v := (rI S x2) v5.toNatClampNeg) B dX13_homeTold_60 h5 h6 rfl ?_
  refine k_iconst (v := 3) B (by decide) dX13_homeTold_61 ?_
  refine k_icmp_ne (tgt := 83) B dX13_homeTold_62 (by decide) (fun c => ?_) (fun c => ?_)
  · refine k_sub [1, 2, 3, 0, 5] rfl ?_
    exact kt c
  · refine k_sub [1, 2, 3, 0, 5] rfl ?_
    exact kf c
theorem bX13_homeTold_65 (B : Bd p s m args meth c cX13_homeTold 6 (wsOf yX13_homeTold cX13_homeTold 6 (some .int)) RX13 w (some .int) "homeTold") {v0 : Nat} {v1 : Int32} {v2 : Int32} {v3 : Int32} {v5 : Int32} {t0 : Int32} {x1 : Nat} {x2 : Nat} {k n : Nat} {Q : State → Prop} (h1 : kd S v0 = 15) (h2 : gP S 919 v0 = some x1) (h3 : kd S x1 = 14) (h4 : gP S 836 x1 = some x2) (h5 : kd S x2 = 21) (h6 : vp_in v5 (ln S x2)) (kt : ¬ ((rI S x2) v5.toNatClampNeg) = v1 → K p l e rX13_homeTold s m args below meth c 6 w k n Q S 83 [(0, .ref v0), (1, .int v1), (2, .int v2), (3, .int v3), (5, .int v5)] [.int t0]) (kf : ((rI S x2) v5.toNatClampNeg) = v1 → K p l e rX13_homeTold s m args below meth c 6 w k n Q S 79 [(0, .ref v0), (1, .int v1), (2, .int v2), (3, .int v3), (5, .int v5)] [.int t0]) : K p l e rX13_homeTold s m args below meth c 6 w k n Q S 65 [(0, .ref v0), (1, .int v1), (2, .int v2), (3, .int v3), (5, .int v5)] [.int t0] := by
  refine k_aload_n B 0 rfl rfl dX13_homeTold_65 ?_
  refine k_getP (f := 919) (r := gP S 919 v0) B 14 23 rfl (by decide) rfl (by decide) rfl rfl (fun w h => in_of (uw_14 w h)) (in_of qfRX13_70) dX13_homeTold_66 h1 rfl ?_
  rw [h2]; change K _ _ _ _ _ _ _ _ _ _ _ _ _ _ _ _ _ _ (.ref x1 :: _)
  refine k_getPN (f := 836) (r := gP S 836 x1) B 13 4 rfl (by decide) rfl (by decide) rfl rfl (fun w h => in_of (uw_13 w h)) "LastMileModel" (nzF_2 B.2.2.2.1.2.2.2.1) dX13_homeTold_69 h3 rfl ?_
  rw [h4]; change K _ _ _ _ _ _ _ _ _ _ _ _ _ _ _ _ _ _ (.ref x2 :: _)
  refine k_iload B 4 rfl dX13_homeTold_72 ?_
  refine k_iald (v := (rI S x2) v5.toNatClampNeg) B dX13_homeTold_74 h5 h6 rfl ?_
  refine k_iload_n B 1 rfl rfl dX13_homeTold_75 ?_
  refine k_icmp_ne (tgt := 83) B dX13_homeTold_76 (by decide) (fun c => ?_) (fun c => ?_)
  · exact kt c
  · exact kf c
theorem bX13_homeTold_79 (B : Bd p s m args meth c cX13_homeTold 6 (wsOf yX13_homeTold cX13_homeTold 6 (some .int)) RX13 w (some .int) "homeTold") {v0 : Nat} {v1 : Int32} {v2 : Int32} {v3 : Int32} {v5 : Int32} {t0 : Int32} {k n : Nat} {Q : State → Prop}  (kk : K p l e rX13_homeTold s m args below meth c 6 w k n Q S 84 [(0, .ref v0), (1, .int v1), (2, .int v2), (3, .int v3), (5, .int v5)] [.int 1, .int t0]) : K p l e rX13_homeTold s m args below meth c 6 w k n Q S 79 [(0, .ref v0), (1, .int v1), (2, .int v2), (3, .int v3), (5, .int v5)] [.int t0] := by
  refine k_iconst (v := 1) B (by decide) dX13_homeTold_79 ?_
  refine k_goto (tgt := 84) B dX13_homeTold_80 (by decide) ?_
  exact kk
theorem bX13_homeTold_83 (B : Bd p s m args meth c cX13_homeTold 6 (wsOf yX13_homeTold cX13_homeTold 6 (some .int)) RX13 w (some .int) "homeTold") {v0 : Nat} {v1 : Int32} {v2 : Int32} {v3 : Int32} {v5 : Int32} {t0 : Int32} {k n : Nat} {Q : State → Prop}  (kk : K p l e rX13_homeTold s m args below meth c 6 w k n Q S 84 [(0, .ref v0), (1, .int v1), (2, .int v2), (3, .int v3), (5, .int v5)] [.int 0, .int t0]) : K p l e rX13_homeTold s m args below meth c 6 w k n Q S 83 [(0, .ref v0), (1, .int v1), (2, .int v2), (3, .int v3), (5, .int v5)] [.int t0] := by
  refine k_iconst (v := 0) B (by decide) dX13_homeTold_83 ?_
  exact kk
theorem bX13_homeTold_84 (B : Bd p s m args meth c cX13_homeTold 6 (wsOf yX13_homeTold cX13_homeTold 6 (some .int)) RX13 w (some .int) "homeTold") {v0 : Nat} {v1 : Int32} {v2 : Int32} {v3 : Int32} {v5 : Int32} {t0 : Int32} {t1 : Int32} {k n : Nat} {Q : State → Prop}  (kk : K p l e rX13_homeTold s m args below meth c 6 w k n Q S 8 [(0, .ref v0), (1, .int v1), (2, .int v2), (3, .int v3), (4, .int (t0 + t1)), (5, .int (v5 + 1))] []) : K p l e rX13_homeTold s m args below meth c 6 w k n Q S 84 [(0, .ref v0), (1, .int v1), (2, .int v2), (3, .int v3), (5, .int v5)] [.int t1, .int t0] := by
  refine k_iadd B dX13_homeTold_84 ?_
  refine k_istore (lst' := [(4, .int (t0 + t1)), (0, .ref v0), (1, .int v1), (2, .int v2), (3, .int v3), (5, .int v5)]) B (by decide) rfl dX13_homeTold_85 ?_
  refine k_iinc (v := v5 + 1) (lst' := [(5, .int (v5 + 1)), (4, .int (t0 + t1)), (0, .ref v0), (1, .int v1), (2, .int v2), (3, .int v3)]) B 5 rfl rfl (by decide) rfl dX13_homeTold_87 ?_
  refine k_goto (tgt := 8) B dX13_homeTold_90 (by decide) ?_
  refine k_sub [2, 3, 4, 5, 1, 0] rfl ?_
  exact kk
theorem bX13_homeTold_93 (B : Bd p s m args meth c cX13_homeTold 6 (wsOf yX13_homeTold cX13_homeTold 6 (some .int)) RX13 w (some .int) "homeTold") {v0 : Nat} {v1 : Int32} {v2 : Int32} {v3 : Int32} {v4 : Int32} {k n : Nat} {Q : State → Prop} (h1 : k + 1 ≤ rX13_homeTold.cells) (h2 : n + 6 ≤ rX13_homeTold.slots) (kk : ∀ q95 : Nat, kd S q95 = 0 → K p l e rX13_homeTold s m args below meth c 6 w (k + 1) (n + 6) Q (nw S q95 21 6) 97 [(0, .ref v0), (1, .int v1), (2, .int v2), (3, .int v3), (4, .int v4)] [.ref q95]) : K p l e rX13_homeTold s m args below meth c 6 w k n Q S 93 [(0, .ref v0), (1, .int v1), (2, .int v2), (3, .int v3), (4, .int v4)] [] := by
  refine k_bipush (v := 6) B (by decide) dX13_homeTold_93 ?_
  refine k_newI (N' := 6) B (in_of qarrI) (by decide) (by decide) (by decide) h1 h2 dX13_homeTold_95 (fun q95 f95 => ?_)
  exact kk q95 f95
theorem bX13_homeTold_97 (B : Bd p s m args meth c cX13_homeTold 6 (wsOf yX13_homeTold cX13_homeTold 6 (some .int)) RX13 w (some .int) "homeTold") {v0 : Nat} {v1 : Int32} {v2 : Int32} {v3 : Int32} {v4 : Int32} {t0 : Nat} {x1 : Nat} {x2 : Nat} {x3 : Nat} {x4 : Nat} {k n : Nat} {Q : State → Prop} (h1 : kd S v0 = 15) (h2 : gP S 901 v0 = some x1) (h3 : kd S x1 = 21) (h4 : vp_in v1 (ln S x1)) (h5 : kd S t0 = 21) (h6 : vp_in 0 (ln S t0)) (h7 : gP S 902 v0 = some x2) (h8 : kd S x2 = 21) (h9 : vp_in v1 (ln S x2)) (h10 : vp_in 1 (ln S t0)) (h11 : gP S 903 v0 = some x3) (h12 : kd S x3 = 21) (h13 : vp_in v1 (ln S x3)) (h14 : vp_in 2 (ln S t0)) (h15 : gP S 904 v0 = some x4) (h16 : kd S x4 = 21) (h17 : vp_in v1 (ln S x4)) (h18 : vp_in 3 (ln S t0)) (h19 : vp_in 4 (ln S t0)) (h20 : vp_in 5 (ln S t0)) (kk : K p l e rX13_homeTold s m args below meth c 6 w k n Q (sRI S t0 (va_up (va_up (va_up (va_up (va_up (va_up (rI S t0) (0 : Int32).toNatClampNeg ((rI S x1) v1.toNatClampNeg)) (1 : Int32).toNatClampNeg ((rI (sRI S t0 (va_up (rI S t0) (0 : Int32).toNatClampNeg ((rI S x1) v1.toNatClampNeg))) x2) v1.toNatClampNeg)) (2 : Int32).toNatClampNeg ((rI (sRI S t0 (va_up (va_up (rI S t0) (0 : Int32).toNatClampNeg ((rI S x1) v1.toNatClampNeg)) (1 : Int32).toNatClampNeg ((rI (sRI S t0 (va_up (rI S t0) (0 : Int32).toNatClampNeg ((rI S x1) v1.toNatClampNeg))) x2) v1.toNatClampNeg))) x3) v1.toNatClampNeg)) (3 : Int32).toNatClampNeg ((rI (sRI S t0 (va_up (va_up (va_up (rI S t0) (0 : Int32).toNatClampNeg ((rI S x1) v1.toNatClampNeg)) (1 : Int32).toNatClampNeg ((rI (sRI S t0 (va_up (rI S t0) (0 : Int32).toNatClampNeg ((rI S x1) v1.toNatClampNeg))) x2) v1.toNatClampNeg)) (2 : Int32).toNatClampNeg ((rI (sRI S t0 (va_up (va_up (rI S t0) (0 : Int32).toNatClampNeg ((rI S x1) v1.toNatClampNeg)) (1 : Int32).toNatClampNeg ((rI (sRI S t0 (va_up (rI S t0) (0 : Int32).toNatClampNeg ((rI S x1) v1.toNatClampNeg))) x2) v1.toNatClampNeg))) x3) v1.toNatClampNeg))) x4) v1.toNatClampNeg)) (4 : Int32).toNatClampNeg v3) (5 : Int32).toNatClampNeg v4)) 142 [(2, .int v2)] [.ref t0]) : K p l e rX13_homeTold s m args below meth c 6 w k n Q S 97 [(0, .ref v0), (1, .int v1), (2, .int v2), (3, .int v3), (4, .int v4)] [.ref t0] := by
  refine k_dup B rfl dX13_homeTold_97 ?_
  refine k_iconst (v := 0) B (by decide) dX13_homeTold_98 ?_
  refine k_aload_n B 0 rfl rfl dX13_homeTold_99 ?_
  refine k_getP (f := 901) (r := gP S 901 v0) B 14 5 rfl (by decide) rfl (by decide) rfl rfl (fun w h => in_of (uw_14 w h)) (in_of qfRX13_20) dX13_homeTold_100 h1 rfl ?_
  rw [h2]; change K _ _ _ _ _ _ _ _ _ _ _ _ _ _ _ _ _ _ (.ref x1 :: _)
  refine k_iload_n B 1 rfl rfl dX13_homeTold_103 ?_
  refine k_iald (v := (rI S x1) v1.toNatClampNeg) B dX13_homeTold_104 h3 h4 rfl ?_
  refine k_iast (g := rI S t0) (S' := sRI S t0 (va_up (rI S t0) (0 : Int32).toNatClampNeg ((rI S x1) v1.toNatClampNeg))) B dX13_homeTold_105 h5 h6 rfl rfl ?_
  refine k_dup B rfl dX13_homeTold_106 ?_
  refine k_iconst (v := 1) B (by decide) dX13_homeTold_107 ?_
  refine k_aload_n B 0 rfl rfl dX13_homeTold_108 ?_
  refine k_getP (f := 902) (r := gP S 902 v0) B 14 6 rfl (by decide) rfl (by decide) rfl rfl (fun w h => in_of (uw_14 w h)) (in_of qfRX13_23) dX13_homeTold_109 h1 rfl ?_
  rw [h7]; change K _ _ _ _ _ _ _ _ _ _ _ _ _ _ _ _ _ _ (.ref x2 :: _)
  refine k_iload_n B 1 rfl rfl dX13_homeTold_112 ?_
  refine k_iald (v := (rI (sRI S t0 (va_up (rI S t0) (0 : Int32).toNatClampNeg ((rI S x1) v1.toNatClampNeg))) x2) v1.toNatClampNeg) B dX13_homeTold_113 h8 h9 rfl ?_
  refine k_iast (g := va_up (rI S t0) (0 : Int32).toNatClampNeg ((rI S x1) v1.toNatClampNeg)) (S' := sRI S t0 (va_up (va_up (rI S t0) (0 : Int32).toNatClampNeg ((rI S x1) v1.toNatClampNeg)) (1 : Int32).toNatClampNeg ((rI (sRI S t0 (va_up (rI S t0) (0 : Int32).toNatClampNeg ((rI S x1) v1.toNatClampNeg))) x2) v1.toNatClampNeg))) B dX13_homeTold_114 h5 h10 (by simp [kd_sI, kd_sP, kd_sRI, kd_sRP, kd_nw, gI_sI, gI_sP, gI_sRI, gI_sRP, gI_nw, gP_sI, gP_sP, gP_sRI, gP_sRP, gP_nw, ln_sI, ln_sP, ln_sRI, ln_sRP, ln_nw, rI_sI, rI_sP, rI_sRI, rI_sRP, rI_nw, rP_sI, rP_sP, rP_sRI, rP_sRP, rP_nw, va_up_self]) (sRI_sRI ..) ?_
  refine k_dup B rfl dX13_homeTold_115 ?_
  refine k_iconst (v := 2) B (by decide) dX13_homeTold_116 ?_
  refine k_aload_n B 0 rfl rfl dX13_homeTold_117 ?_
  refine k_getP (f := 903) (r := gP S 903 v0) B 14 7 rfl (by decide) rfl (by decide) rfl rfl (fun w h => in_of (uw_14 w h)) (in_of qfRX13_26) dX13_homeTold_118 h1 rfl ?_
  rw [h11]; change K _ _ _ _ _ _ _ _ _ _ _ _ _ _ _ _ _ _ (.ref x3 :: _)
  refine k_iload_n B 1 rfl rfl dX13_homeTold_121 ?_
  refine k_iald (v := (rI (sRI S t0 (va_up (va_up (rI S t0) (0 : Int32).toNatClampNeg ((rI S x1) v1.toNatClampNeg)) (1 : Int32).toNatClampNeg ((rI (sRI S t0 (va_up (rI S t0) (0 : Int32).toNatClampNeg ((rI S x1) v1.toNatClampNeg))) x2) v1.toNatClampNeg))) x3) v1.toNatClampNeg) B dX13_homeTold_122 h12 h13 rfl ?_
  refine k_iast (g := va_up (va_up (rI S t0) (0 : Int32).toNatClampNeg ((rI S x1) v1.toNatClampNeg)) (1 : Int32).toNatClampNeg ((rI (sRI S t0 (va_up (rI S t0) (0 : Int32).toNatClampNeg ((rI S x1) v1.toNatClampNeg))) x2) v1.toNatClampNeg)) (S' := sRI S t0 (va_up (va_up (va_up (rI S t0) (0 : Int32).toNatClampNeg ((rI S x1) v1.toNatClampNeg)) (1 : Int32).toNatClampNeg ((rI (sRI S t0 (va_up (rI S t0) (0 : Int32).toNatClampNeg ((rI S x1) v1.toNatClampNeg))) x2) v1.toNatClampNeg)) (2 : Int32).toNatClampNeg ((rI (sRI S t0 (va_up (va_up (rI S t0) (0 : Int32).toNatClampNeg ((rI S x1) v1.toNatClampNeg)) (1 : Int32).toNatClampNeg ((rI (sRI S t0 (va_up (rI S t0) (0 : Int32).toNatClampNeg ((rI S x1) v1.toNatClampNeg))) x2) v1.toNatClampNeg))) x3) v1.toNatClampNeg))) B dX13_homeTold_123 h5 h14 (by simp [kd_sI, kd_sP, kd_sRI, kd_sRP, kd_nw, gI_sI, gI_sP, gI_sRI, gI_sRP, gI_nw, gP_sI, gP_sP, gP_sRI, gP_sRP, gP_nw, ln_sI, ln_sP, ln_sRI, ln_sRP, ln_nw, rI_sI, rI_sP, rI_sRI, rI_sRP, rI_nw, rP_sI, rP_sP, rP_sRI, rP_sRP, rP_nw, va_up_self]) (sRI_sRI ..) ?_
  refine k_dup B rfl dX13_homeTold_124 ?_
  refine k_iconst (v := 3) B (by decide) dX13_homeTold_125 ?_
  refine k_aload_n B 0 rfl rfl dX13_homeTold_126 ?_
  refine k_getP (f := 904) (r := gP S 904 v0) B 14 8 rfl (by decide) rfl (by decide) rfl rfl (fun w h => in_of (uw_14 w h)) (in_of qfRX13_29) dX13_homeTold_127 h1 rfl ?_
  rw [h15]; change K _ _ _ _ _ _ _ _ _ _ _ _ _ _ _ _ _ _ (.ref x4 :: _)
  refine k_iload_n B 1 rfl rfl dX13_homeTold_130 ?_
  refine k_iald (v := (rI (sRI S t0 (va_up (va_up (va_up (rI S t0) (0 : Int32).toNatClampNeg ((rI S x1) v1.toNatClampNeg)) (1 : Int32).toNatClampNeg ((rI (sRI S t0 (va_up (rI S t0) (0 : Int32).toNatClampNeg ((rI S x1) v1.toNatClampNeg))) x2) v1.toNatClampNeg)) (2 : Int32).toNatClampNeg ((rI (sRI S t0 (va_up (va_up (rI S t0) (0 : Int32).toNatClampNeg ((rI S x1) v1.toNatClampNeg)) (1 : Int32).toNatClampNeg ((rI (sRI S t0 (va_up (rI S t0) (0 : Int32).toNatClampNeg ((rI S x1) v1.toNatClampNeg))) x2) v1.toNatClampNeg))) x3) v1.toNatClampNeg))) x4) v1.toNatClampNeg) B dX13_homeTold_131 h16 h17 rfl ?_
  refine k_iast (g := va_up (va_up (va_up (rI S t0) (0 : Int32).toNatClampNeg ((rI S x1) v1.toNatClampNeg)) (1 : Int32).toNatClampNeg ((rI (sRI S t0 (va_up (rI S t0) (0 : Int32).toNatClampNeg ((rI S x1) v1.toNatClampNeg))) x2) v1.toNatClampNeg)) (2 : Int32).toNatClampNeg ((rI (sRI S t0 (va_up (va_up (rI S t0) (0 : Int32).toNatClampNeg ((rI S x1) v1.toNatClampNeg)) (1 : Int32).toNatClampNeg ((rI (sRI S t0 (va_up (rI S t0) (0 : Int32).toNatClampNeg ((rI S x1) v1.toNatClampNeg))) x2) v1.toNatClampNeg))) x3) v1.toNatClampNeg)) (S' := sRI S t0 (va_up (va_up (va_up (va_up (rI S t0) (0 : Int32).toNatClampNeg ((rI S x1) v1.toNatClampNeg)) (1 : Int32).toNatClampNeg ((rI (sRI S t0 (va_up (rI S t0) (0 : Int32).toNatClampNeg ((rI S x1) v1.toNatClampNeg))) x2) v1.toNatClampNeg)) (2 : Int32).toNatClampNeg ((rI (sRI S t0 (va_up (va_up (rI S t0) (0 : Int32).toNatClampNeg ((rI S x1) v1.toNatClampNeg)) (1 : Int32).toNatClampNeg ((rI (sRI S t0 (va_up (rI S t0) (0 : Int32).toNatClampNeg ((rI S x1) v1.toNatClampNeg))) x2) v1.toNatClampNeg))) x3) v1.toNatClampNeg)) (3 : Int32).toNatClampNeg ((rI (sRI S t0 (va_up (va_up (va_up (rI S t0) (0 : Int32).toNatClampNeg ((rI S x1) v1.toNatClampNeg)) (1 : Int32).toNatClampNeg ((rI (sRI S t0 (va_up (rI S t0) (0 : Int32).toNatClampNeg ((rI S x1) v1.toNatClampNeg))) x2) v1.toNatClampNeg)) (2 : Int32).toNatClampNeg ((rI (sRI S t0 (va_up (va_up (rI S t0) (0 : Int32).toNatClampNeg ((rI S x1) v1.toNatClampNeg)) (1 : Int32).toNatClampNeg ((rI (sRI S t0 (va_up (rI S t0) (0 : Int32).toNatClampNeg ((rI S x1) v1.toNatClampNeg))) x2) v1.toNatClampNeg))) x3) v1.toNatClampNeg))) x4) v1.toNatClampNeg))) B dX13_homeTold_132 h5 h18 (by simp [kd_sI, kd_sP, kd_sRI, kd_sRP, kd_nw, gI_sI, gI_sP, gI_sRI, gI_sRP, gI_nw, gP_sI, gP_sP, gP_sRI, gP_sRP, gP_nw, ln_sI, ln_sP, ln_sRI, ln_sRP, ln_nw, rI_sI, rI_sP, rI_sRI, rI_sRP, rI_nw, rP_sI, rP_sP, rP_sRI, rP_sRP, rP_nw, va_up_self]) (sRI_sRI ..) ?_
  refine k_dup B rfl dX13_homeTold_133 ?_
  refine k_iconst (v := 4) B (by decide) dX13_homeTold_134 ?_
  refine k_iload_n B 3 rfl rfl dX13_homeTold_135 ?_
  refine k_iast (g := va_up (va_up (va_up (va_up (rI S t0) (0 : Int32).toNatClampNeg ((rI S x1) v1.toNatClampNeg)) (1 : Int32).toNatClampNeg ((rI (sRI S t0 (va_up (rI S t0) (0 : Int32).toNatClampNeg ((rI S x1) v1.toNatClampNeg))) x2) v1.toNatClampNeg)) (2 : Int32).toNatClampNeg ((rI (sRI S t0 (va_up (va_up (rI S t0) (0 : Int32).toNatClampNeg ((rI S x1) v1.toNatClampNeg)) (1 : Int32).toNatClampNeg ((rI (sRI S t0 (va_up (rI S t0) (0 : Int32).toNatClampNeg ((rI S x1) v1.toNatClampNeg))) x2) v1.toNatClampNeg))) x3) v1.toNatClampNeg)) (3 : Int32).toNatClampNeg ((rI (sRI S t0 (va_up (va_up (va_up (rI S t0) (0 : Int32).toNatClampNeg ((rI S x1) v1.toNatClampNeg)) (1 : Int32).toNatClampNeg ((rI (sRI S t0 (va_up (rI S t0) (0 : Int32).toNatClampNeg ((rI S x1) v1.toNatClampNeg))) x2) v1.toNatClampNeg)) (2 : Int32).toNatClampNeg ((rI (sRI S t0 (va_up (va_up (rI S t0) (0 : Int32).toNatClampNeg ((rI S x1) v1.toNatClampNeg)) (1 : Int32).toNatClampNeg ((rI (sRI S t0 (va_up (rI S t0) (0 : Int32).toNatClampNeg ((rI S x1) v1.toNatClampNeg))) x2) v1.toNatClampNeg))) x3) v1.toNatClampNeg))) x4) v1.toNatClampNeg)) (S' := sRI S t0 (va_up (va_up (va_up (va_up (va_up (rI S t0) (0 : Int32).toNatClampNeg ((rI S x1) v1.toNatClampNeg)) (1 : Int32).toNatClampNeg ((rI (sRI S t0 (va_up (rI S t0) (0 : Int32).toNatClampNeg ((rI S x1) v1.toNatClampNeg))) x2) v1.toNatClampNeg)) (2 : Int32).toNatClampNeg ((rI (sRI S t0 (va_up (va_up (rI S t0) (0 : Int32).toNatClampNeg ((rI S x1) v1.toNatClampNeg)) (1 : Int32).toNatClampNeg ((rI (sRI S t0 (va_up (rI S t0) (0 : Int32).toNatClampNeg ((rI S x1) v1.toNatClampNeg))) x2) v1.toNatClampNeg))) x3) v1.toNatClampNeg)) (3 : Int32).toNatClampNeg ((rI (sRI S t0 (va_up (va_up (va_up (rI S t0) (0 : Int32).toNatClampNeg ((rI S x1) v1.toNatClampNeg)) (1 : Int32).toNatClampNeg ((rI (sRI S t0 (va_up (rI S t0) (0 : Int32).toNatClampNeg ((rI S x1) v1.toNatClampNeg))) x2) v1.toNatClampNeg)) (2 : Int32).toNatClampNeg ((rI (sRI S t0 (va_up (va_up (rI S t0) (0 : Int32).toNatClampNeg ((rI S x1) v1.toNatClampNeg)) (1 : Int32).toNatClampNeg ((rI (sRI S t0 (va_up (rI S t0) (0 : Int32).toNatClampNeg ((rI S x1) v1.toNatClampNeg))) x2) v1.toNatClampNeg))) x3) v1.toNatClampNeg))) x4) v1.toNatClampNeg)) (4 : Int32).toNatClampNeg v3)) B dX13_homeTold_136 h5 h19 (by simp [kd_sI, kd_sP, kd_sRI, kd_sRP, kd_nw, gI_sI, gI_sP, gI_sRI, gI_sRP, gI_nw, gP_sI, gP_sP, gP_sRI, gP_sRP, gP_nw, ln_sI, ln_sP, ln_sRI, ln_sRP, ln_nw, rI_sI, rI_sP, rI_sRI, rI_sRP, rI_nw, rP_sI, rP_sP, rP_sRI, rP_sRP, rP_nw, va_up_self]) (sRI_sRI ..) ?_
  refine k_dup B rfl dX13_homeTold_137 ?_
  refine k_iconst (v := 5) B (by decide) dX13_homeTold_138 ?_
  refine k_iload B 4 rfl dX13_homeTold_139 ?_
  refine k_iast (g := va_up (va_up (va_up (va_up (va_up (rI S t0) (0 : Int32).toNatClampNeg ((rI S x1) v1.toNatClampNeg)) (1 : Int32).toNatClampNeg ((rI (sRI S t0 (va_up (rI S t0) (0 : Int32).toNatClampNeg ((rI S x1) v1.toNatClampNeg))) x2) v1.toNatClampNeg)) (2 : Int32).toNatClampNeg ((rI (sRI S t0 (va_up (va_up (rI S t0) (0 : Int32).toNatClampNeg ((rI S x1) v1.toNatClampNeg)) (1 : Int32).toNatClampNeg ((rI (sRI S t0 (va_up (rI S t0) (0 : Int32).toNatClampNeg ((rI S x1) v1.toNatClampNeg))) x2) v1.toNatClampNeg))) x3) v1.toNatClampNeg)) (3 : Int32).toNatClampNeg ((rI (sRI S t0 (va_up (va_up (va_up (rI S t0) (0 : Int32).toNatClampNeg ((rI S x1) v1.toNatClampNeg)) (1 : Int32).toNatClampNeg ((rI (sRI S t0 (va_up (rI S t0) (0 : Int32).toNatClampNeg ((rI S x1) v1.toNatClampNeg))) x2) v1.toNatClampNeg)) (2 : Int32).toNatClampNeg ((rI (sRI S t0 (va_up (va_up (rI S t0) (0 : Int32).toNatClampNeg ((rI S x1) v1.toNatClampNeg)) (1 : Int32).toNatClampNeg ((rI (sRI S t0 (va_up (rI S t0) (0 : Int32).toNatClampNeg ((rI S x1) v1.toNatClampNeg))) x2) v1.toNatClampNeg))) x3) v1.toNatClampNeg))) x4) v1.toNatClampNeg)) (4 : Int32).toNatClampNeg v3) (S' := sRI S t0 (va_up (va_up (va_up (va_up (va_up (va_up (rI S t0) (0 : Int32).toNatClampNeg ((rI S x1) v1.toNatClampNeg)) (1 : Int32).toNatClampNeg ((rI (sRI S t0 (va_up (rI S t0) (0 : Int32).toNatClampNeg ((rI S x1) v1.toNatClampNeg))) x2) v1.toNatClampNeg)) (2 : Int32).toNatClampNeg ((rI (sRI S t0 (va_up (va_up (rI S t0) (0 : Int32).toNatClampNeg ((rI S x1) v1.toNatClampNeg)) (1 : Int32).toNatClampNeg ((rI (sRI S t0 (va_up (rI S t0) (0 : Int32).toNatClampNeg ((rI S x1) v1.toNatClampNeg))) x2) v1.toNatClampNeg))) x3) v1.toNatClampNeg)) (3 : Int32).toNatClampNeg ((rI (sRI S t0 (va_up (va_up (va_up (rI S t0) (0 : Int32).toNatClampNeg ((rI S x1) v1.toNatClampNeg)) (1 : Int32).toNatClampNeg ((rI (sRI S t0 (va_up (rI S t0) (0 : Int32).toNatClampNeg ((rI S x1) v1.toNatClampNeg))) x2) v1.toNatClampNeg)) (2 : Int32).toNatClampNeg ((rI (sRI S t0 (va_up (va_up (rI S t0) (0 : Int32).toNatClampNeg ((rI S x1) v1.toNatClampNeg)) (1 : Int32).toNatClampNeg ((rI (sRI S t0 (va_up (rI S t0) (0 : Int32).toNatClampNeg ((rI S x1) v1.toNatClampNeg))) x2) v1.toNatClampNeg))) x3) v1.toNatClampNeg))) x4) v1.toNatClampNeg)) (4 : Int32).toNatClampNeg v3) (5 : Int32).toNatClampNeg v4)) B dX13_homeTold_141 h5 h20 (by simp [kd_sI, kd_sP, kd_sRI, kd_sRP, kd_nw, gI_sI, gI_sP, gI_sRI, gI_sRP, gI_nw, gP_sI, gP_sP, gP_sRI, gP_sRP, gP_nw, ln_sI, ln_sP, ln_sRI, ln_sRP, ln_nw, rI_sI, rI_sP, rI_sRI, rI_sRP, rI_nw, rP_sI, rP_sP, rP_sRI, rP_sRP, rP_nw, va_up_self]) (sRI_sRI ..) ?_
  refine k_sub [2] rfl ?_
  exact kk
theorem bX13_homeTold_142 (B : Bd p s m args meth c cX13_homeTold 6 (wsOf yX13_homeTold cX13_homeTold 6 (some .int)) RX13 w (some .int) "homeTold") {v2 : Int32} {t0 : Nat} {post : Int32 → St → Prop} {k n : Nat} (h1 : kd S t0 = 21) (h2 : vp_in v2 (ln S t0)) (hq : post ((rI S t0) v2.toNatClampNeg) S) : K p l e rX13_homeTold s m args below meth c 6 w k n (MQ below (va_Qi post (fun S' t => Hd w S' t.heap) (wA w)) args s k n (wA w)) S 142 [(2, .int v2)] [.ref t0] := by
  refine k_astore (lst' := [(5, .ref t0), (2, .int v2)]) B (by decide) rfl dX13_homeTold_142 ?_
  refine k_aload B 0 rfl dX13_homeTold_144 ?_
  refine k_iload_n B 1 rfl rfl dX13_homeTold_146 ?_
  refine k_iald (v := (rI S t0) v2.toNatClampNeg) B dX13_homeTold_147 h1 h2 rfl ?_
  exact ret_I B rfl dX13_homeTold_148 (hq)
theorem bX13_home_0 (B : Bd p s m args meth c cX13_home 3 (wsOf yX13_home cX13_home 3 (some .int)) RX13 w (some .int) "home") {v0 : Nat} {v1 : Int32} {v2 : Int32} {post : Int32 → St → Prop} {k n : Nat} {Q : State → Prop} (h1 : kd S v0 = 15) (hc : ConI l yX13_isHomeNumber (wsOf yX13_isHomeNumber cX13_isHomeNumber 2 (some .boolean)) rX13_isHomeNumber w (sI S 896 v0 0) [.ref v0, .int v1] post) (h2 : k + 0 ≤ rX13_home.cells) (h3 : n + 0 ≤ rX13_home.slots) (kk : ∀ (r : Int32) (S' : St), post r S' → K p l e rX13_home s m args below meth c 3 w k n Q S' 10 [(0, .ref v0), (1, .int v1), (2, .int v2)] [.int r]) : K p l e rX13_home s m args below meth c 3 w k n Q S 0 [(0, .ref v0), (1, .int v1), (2, .int v2)] [] := by
  refine k_aload_n B 0 rfl rfl dX13_home_0 ?_
  refine k_iconst (v := 0) B (by decide) dX13_home_1 ?_
  refine k_putI (f := 896) B 14 0 rfl (by decide) rfl (by decide) rfl rfl (fun w h => in_of (uw_14 w h)) (in_of qfRX13_95) tyX13 tyX13_ok nmX13 rfl (tyX13_ok 0 (by decide)) dX13_home_2 h1 ?_
  refine k_aload_n B 0 rfl rfl dX13_home_5 ?_
  refine k_iload_n B 1 rfl rfl dX13_home_6 ?_
  refine callV_I (st := []) B [.int v1] (hc) (cwV 1 B.1.2.2.2.2 (gV qlRX13_128 qiX13_isHomeNumber qeX13_isHomeNumber qzRX13 qcX13_isHomeNumber) rfl rfl rfl (by decide +kernel) ⟨Nat.le_of_ble_eq_true rfl, Nat.le_of_ble_eq_true rfl⟩) rfl rfl (by decide) h1 (Nat.le_of_ble_eq_true rfl) rfl dX13_home_7 ⟨h2, h3⟩ (fun r S' hp => ?_)
  exact kk r S' hp
theorem bX13_home_10 (B : Bd p s m args meth c cX13_home 3 (wsOf yX13_home cX13_home 3 (some .int)) RX13 w (some .int) "home") {v0 : Nat} {v1 : Int32} {v2 : Int32} {t0 : Int32} {k n : Nat} {Q : State → Prop}  (kt : t0 = 0 → K p l e rX13_home s m args below meth c 3 w k n Q S 31 [(0, .ref v0)] []) (kf : ¬ t0 = 0 → K p l e rX13_home s m args below meth c 3 w k n Q S 13 [(0, .ref v0), (1, .int v1), (2, .int v2)] []) : K p l e rX13_home s m args below meth c 3 w k n Q S 10 [(0, .ref v0), (1, .int v1), (2, .int v2)] [.int t0] := by
  refine k_if_eq (tgt := 31) B dX13_home_10 (by decide) (fun c => ?_) (fun c => ?_)
  · refine k_sub [0] rfl ?_
    exact kt c
  · exact kf c
theorem bX13_home_13 (B : Bd p s m args meth c cX13_home 3 (wsOf yX13_home cX13_home 3 (some .int)) RX13 w (some .int) "home") {v0 : Nat} {v1 : Int32} {v2 : Int32} {post : Int32 → St → Prop} {k n : Nat} {Q : State → Prop} (hc : ConI l yX13_isIn (wsOf yX13_isIn cX13_isIn 3 (some .boolean)) rX13_isIn w S [.int v2, .int 0, .int 5] post) (h1 : k + 0 ≤ rX13_home.cells) (h2 : n + 0 ≤ rX13_home.slots) (kk : ∀ (r : Int32) (S' : St), post r S' → K p l e rX13_home s m args below meth c 3 w k n Q S' 19 [(0, .ref v0), (1, .int v1), (2, .int v2)] [.int r]) : K p l e rX13_home s m args below meth c 3 w k n Q S 13 [(0, .ref v0), (1, .int v1), (2, .int v2)] [] := by
  refine k_iload_n B 2 rfl rfl dX13_home_13 ?_
  refine k_iconst (v := 0) B (by decide) dX13_home_14 ?_
  refine k_iconst (v := 5) B (by decide) dX13_home_15 ?_
  refine callS_I (st := []) B [.int v2, .int 0, .int 5] (hc) (va_cwS 3 B.1.2.2.2.2 (gS qlRX13_98 qsX13_isIn qzRX13 qcX13_isIn) rfl rfl rfl (by decide +kernel) ⟨Nat.le_of_ble_eq_true rfl, Nat.le_of_ble_eq_true rfl⟩) rfl (Nat.le_of_ble_eq_true rfl) rfl dX13_home_16 ⟨h1, h2⟩ (fun r S' hp => ?_)
  exact kk r S' hp
theorem bX13_home_19 (B : Bd p s m args meth c cX13_home 3 (wsOf yX13_home cX13_home 3 (some .int)) RX13 w (some .int) "home") {v0 : Nat} {v1 : Int32} {v2 : Int32} {t0 : Int32} {k n : Nat} {Q : State → Prop}  (kt : t0 = 0 → K p l e rX13_home s m args below meth c 3 w k n Q S 31 [(0, .ref v0)] []) (kf : ¬ t0 = 0 → K p l e rX13_home s m args below meth c 3 w k n Q S 22 [(0, .ref v0), (1, .int v1), (2, .int v2)] []) : K p l e rX13_home s m args below meth c 3 w k n Q S 19 [(0, .ref v0), (1, .int v1), (2, .int v2)] [.int t0] := by
  refine k_if_eq (tgt := 31) B dX13_home_19 (by decide) (fun c => ?_) (fun c => ?_)
  · refine k_sub [0] rfl ?_
    exact kt c
  · exact kf c
theorem bX13_home_22 (B : Bd p s m args meth c cX13_home 3 (wsOf yX13_home cX13_home 3 (some .int)) RX13 w (some .int) "home") {v0 : Nat} {v1 : Int32} {v2 : Int32} {post : Int32 → St → Prop} {k n : Nat} {Q : State → Prop} (hc : ConI l yX13_homeTold (wsOf yX13_homeTold cX13_homeTold 6 (some .int)) rX13_homeTold w S [.ref v0, .int v1, .int v2] post) (h1 : k + 1 ≤ rX13_home.cells) (h2 : n + 6 ≤ rX13_home.slots) (h3 : kd S v0 = 15) (kk : ∀ (r : Int32) (S' : St), post r S' → K p l e rX13_home s m args below meth c 3 w (k + 1) (n + 6) Q S' 28 [] [.int r]) : K p l e rX13_home s m args below meth c 3 w k n Q S 22 [(0, .ref v0), (1, .int v1), (2, .int v2)] [] := by
  refine k_aload_n B 0 rfl rfl dX13_home_22 ?_
  refine k_iload_n B 1 rfl rfl dX13_home_23 ?_
  refine k_iload_n B 2 rfl rfl dX13_home_24 ?_
  refine callV_I (st := []) B [.int v1, .int v2] (hc) (cwV 2 B.1.2.2.2.2 (gV qlRX13_150 qiX13_homeTold qeX13_homeTold qzRX13 qcX13_homeTold) rfl rfl rfl (by decide +kernel) ⟨Nat.le_of_ble_eq_true rfl, Nat.le_of_ble_eq_true rfl⟩) rfl rfl (by decide) h3 (Nat.le_of_ble_eq_true rfl) rfl dX13_home_25 ⟨h1, h2⟩ (fun r S' hp => ?_)
  refine k_sub [] rfl ?_
  exact kk r S' hp
theorem bX13_home_28 (B : Bd p s m args meth c cX13_home 3 (wsOf yX13_home cX13_home 3 (some .int)) RX13 w (some .int) "home") {t0 : Int32} {k n : Nat} {Q : State → Prop}  (kk : K p l e rX13_home s m args below meth c 3 w k n Q S 36 [] [.int t0]) : K p l e rX13_home s m args below meth c 3 w k n Q S 28 [] [.int t0] := by
  refine k_goto (tgt := 36) B dX13_home_28 (by decide) ?_
  exact kk
theorem bX13_home_31 (B : Bd p s m args meth c cX13_home 3 (wsOf yX13_home cX13_home 3 (some .int)) RX13 w (some .int) "home") {v0 : Nat} {post : Int32 → St → Prop} {k n : Nat} {Q : State → Prop} (hc : ConI l yX13_no (wsOf yX13_no cX13_no 2 (some .int)) rX13_no w S [.ref v0, .int 1] post) (h1 : k + 0 ≤ rX13_home.cells) (h2 : n + 0 ≤ rX13_home.slots) (h3 : kd S v0 = 15) (kk : ∀ (r : Int32) (S' : St), post r S' → K p l e rX13_home s m args below meth c 3 w k n Q S' 36 [] [.int r]) : K p l e rX13_home s m args below meth c 3 w k n Q S 31 [(0, .ref v0)] [] := by
  refine k_aload_n B 0 rfl rfl dX13_home_31 ?_
  refine k_iconst (v := 1) B (by decide) dX13_home_32 ?_
  refine callV_I (st := []) B [.int 1] (hc) (cwV 1 B.1.2.2.2.2 (gV qlRX13_120 qiX13_no qeX13_no qzRX13 qcX13_no) rfl rfl rfl (by decide +kernel) ⟨Nat.le_of_ble_eq_true rfl, Nat.le_of_ble_eq_true rfl⟩) rfl rfl (by decide) h3 (Nat.le_of_ble_eq_true rfl) rfl dX13_home_33 ⟨h1, h2⟩ (fun r S' hp => ?_)
  refine k_sub [] rfl ?_
  exact kk r S' hp
theorem bX13_home_36 (B : Bd p s m args meth c cX13_home 3 (wsOf yX13_home cX13_home 3 (some .int)) RX13 w (some .int) "home") {t0 : Int32} {post : Int32 → St → Prop} {k n : Nat}  (hq : post t0 S) : K p l e rX13_home s m args below meth c 3 w k n (MQ below (va_Qi post (fun S' t => Hd w S' t.heap) (wA w)) args s k n (wA w)) S 36 [] [.int t0] := by
  exact ret_I B rfl dX13_home_36 (hq)
theorem bX13_lockerTold_0 (B : Bd p s m args meth c cX13_lockerTold 5 (wsOf yX13_lockerTold cX13_lockerTold 5 (some .int)) RX13 w (some .int) "lockerTold") {v0 : Nat} {v1 : Int32} {v2 : Int32} {Q : State → Prop}  (kt : 2 ≤ v2 → K p l e rX13_lockerTold s m args below meth c 5 w 0 0 Q S 25 [(0, .ref v0), (1, .int v1), (2, .int v2)] []) (kf : ¬ 2 ≤ v2 → K p l e rX13_lockerTold s m args below meth c 5 w 0 0 Q S 5 [(0, .ref v0), (1, .int v1), (2, .int v2)] []) : K p l e rX13_lockerTold s m args below meth c 5 w 0 0 Q S 0 [(0, .ref v0), (1, .int v1), (2, .int v2)] [] := by
  refine k_iload_n B 2 rfl rfl dX13_lockerTold_0 ?_
  refine k_iconst (v := 2) B (by decide) dX13_lockerTold_1 ?_
  refine k_icmp_ge (tgt := 25) B dX13_lockerTold_2 (by decide) (fun c => ?_) (fun c => ?_)
  · exact kt c
  · exact kf c
theorem bX13_lockerTold_5 (B : Bd p s m args meth c cX13_lockerTold 5 (wsOf yX13_lockerTold cX13_lockerTold 5 (some .int)) RX13 w (some .int) "lockerTold") {v0 : Nat} {v1 : Int32} {v2 : Int32} {Q : State → Prop}  (kt : ¬ v2 = 0 → K p l e rX13_lockerTold s m args below meth c 5 w 0 0 Q S 18 [(0, .ref v0), (1, .int v1)] []) (kf : v2 = 0 → K p l e rX13_lockerTold s m args below meth c 5 w 0 0 Q S 9 [(0, .ref v0), (1, .int v1)] []) : K p l e rX13_lockerTold s m args below meth c 5 w 0 0 Q S 5 [(0, .ref v0), (1, .int v1), (2, .int v2)] [] := by
  refine k_iload_n B 2 rfl rfl dX13_lockerTold_5 ?_
  refine k_if_ne (tgt := 18) B dX13_lockerTold_6 (by decide) (fun c => ?_) (fun c => ?_)
  · refine k_sub [0, 1] rfl ?_
    exact kt c
  · refine k_sub [0, 1] rfl ?_
    exact kf c
theorem bX13_lockerTold_9 (B : Bd p s m args meth c cX13_lockerTold 5 (wsOf yX13_lockerTold cX13_lockerTold 5 (some .int)) RX13 w (some .int) "lockerTold") {v0 : Nat} {v1 : Int32} {x1 : Nat} {Q : State → Prop} (h1 : kd S v0 = 15) (h2 : gP S 907 v0 = some x1) (h3 : kd S x1 = 21) (h4 : vp_in v1 (ln S x1)) (kk : K p l e rX13_lockerTold s m args below meth c 5 w 0 0 Q S 24 [] [.int ((rI S x1) v1.toNatClampNeg)]) : K p l e rX13_lockerTold s m args below meth c 5 w 0 0 Q S 9 [(0, .ref v0), (1, .int v1)] [] := by
  refine k_aload_n B 0 rfl rfl dX13_lockerTold_9 ?_
  refine k_getP (f := 907) (r := gP S 907 v0) B 14 11 rfl (by decide) rfl (by decide) rfl rfl (fun w h => in_of (uw_14 w h)) (in_of qfRX13_35) dX13_lockerTold_10 h1 rfl ?_
  rw [h2]; change K _ _ _ _ _ _ _ _ _ _ _ _ _ _ _ _ _ _ (.ref x1 :: _)
  refine k_iload_n B 1 rfl rfl dX13_lockerTold_13 ?_
  refine k_iald (v := (rI S x1) v1.toNatClampNeg) B dX13_lockerTold_14 h3 h4 rfl ?_
  refine k_goto (tgt := 24) B dX13_lockerTold_15 (by decide) ?_
  refine k_sub [] rfl ?_
  exact kk
theorem bX13_lockerTold_18 (B : Bd p s m args meth c cX13_lockerTold 5 (wsOf yX13_lockerTold cX13_lockerTold 5 (some .int)) RX13 w (some .int) "lockerTold") {v0 : Nat} {v1 : Int32} {x1 : Nat} {Q : State → Prop} (h1 : kd S v0 = 15) (h2 : gP S 908 v0 = some x1) (h3 : kd S x1 = 21) (h4 : vp_in v1 (ln S x1)) (kk : K p l e rX13_lockerTold s m args below meth c 5 w 0 0 Q S 24 [] [.int ((rI S x1) v1.toNatClampNeg)]) : K p l e rX13_lockerTold s m args below meth c 5 w 0 0 Q S 18 [(0, .ref v0), (1, .int v1)] [] := by
  refine k_aload_n B 0 rfl rfl dX13_lockerTold_18 ?_
  refine k_getP (f := 908) (r := gP S 908 v0) B 14 12 rfl (by decide) rfl (by decide) rfl rfl (fun w h => in_of (uw_14 w h)) (in_of qfRX13_38) dX13_lockerTold_19 h1 rfl ?_
  rw [h2]; change K _ _ _ _ _ _ _ _ _ _ _ _ _ _ _ _ _ _ (.ref x1 :: _)
  refine k_iload_n B 1 rfl rfl dX13_lockerTold_22 ?_
  refine k_iald (v := (rI S x1) v1.toNatClampNeg) B dX13_lockerTold_23 h3 h4 rfl ?_
  refine k_sub [] rfl ?_
  exact kk
theorem bX13_lockerTold_24 (B : Bd p s m args meth c cX13_lockerTold 5 (wsOf yX13_lockerTold cX13_lockerTold 5 (some .int)) RX13 w (some .int) "lockerTold") {t0 : Int32} {post : Int32 → St → Prop}  (hq : post t0 S) : K p l e rX13_lockerTold s m args below meth c 5 w 0 0 (MQ below (va_Qi post (fun S' t => Hd w S' t.heap) (wA w)) args s 0 0 (wA w)) S 24 [] [.int t0] := by
  exact ret_I B rfl dX13_lockerTold_24 (hq)
theorem bX13_lockerTold_25 (B : Bd p s m args meth c cX13_lockerTold 5 (wsOf yX13_lockerTold cX13_lockerTold 5 (some .int)) RX13 w (some .int) "lockerTold") {v0 : Nat} {v1 : Int32} {v2 : Int32} {Q : State → Prop}  (kt : 5 ≤ v2 → K p l e rX13_lockerTold s m args below meth c 5 w 0 0 Q S 46 [(0, .ref v0), (1, .int v1)] []) (kf : ¬ 5 ≤ v2 → K p l e rX13_lockerTold s m args below meth c 5 w 0 0 Q S 30 [(0, .ref v0), (1, .int v1), (2, .int v2)] []) : K p l e rX13_lockerTold s m args below meth c 5 w 0 0 Q S 25 [(0, .ref v0), (1, .int v1), (2, .int v2)] [] := by
  refine k_iload_n B 2 rfl rfl dX13_lockerTold_25 ?_
  refine k_iconst (v := 5) B (by decide) dX13_lockerTold_26 ?_
  refine k_icmp_ge (tgt := 46) B dX13_lockerTold_27 (by decide) (fun c => ?_) (fun c => ?_)
  · refine k_sub [0, 1] rfl ?_
    exact kt c
  · exact kf c
theorem bX13_lockerTold_30 (B : Bd p s m args meth c cX13_lockerTold 5 (wsOf yX13_lockerTold cX13_lockerTold 5 (some .int)) RX13 w (some .int) "lockerTold") {v0 : Nat} {v1 : Int32} {v2 : Int32} {x1 : Nat} {x2 : Nat} {post : Int32 → St → Prop} (h1 : kd S v0 = 15) (h2 : gP S 919 v0 = some x1) (h3 : kd S x1 = 14) (h4 : gP S 839 x1 = some x2) (h5 : kd S x2 = 21) (h6 : vp_in (((3 * v1) + v2) - 2) (ln S x2)) (hq : post ((rI S x2) (((3 * v1) + v2) - 2).toNatClampNeg) S) : K p l e rX13_lockerTold s m args below meth c 5 w 0 0 (MQ below (va_Qi post (fun S' t => Hd w S' t.heap) (wA w)) args s 0 0 (wA w)) S 30 [(0, .ref v0), (1, .int v1), (2, .int v2)] [] := by
  refine k_aload_n B 0 rfl rfl dX13_lockerTold_30 ?_
  refine k_getP (f := 919) (r := gP S 919 v0) B 14 23 rfl (by decide) rfl (by decide) rfl rfl (fun w h => in_of (uw_14 w h)) (in_of qfRX13_70) dX13_lockerTold_31 h1 rfl ?_
  rw [h2]; change K _ _ _ _ _ _ _ _ _ _ _ _ _ _ _ _ _ _ (.ref x1 :: _)
  refine k_getPN (f := 839) (r := gP S 839 x1) B 13 7 rfl (by decide) rfl (by decide) rfl rfl (fun w h => in_of (uw_13 w h)) "LastMileModel" (nzF_1 B.2.2.2.1.2.2.2.1) dX13_lockerTold_34 h3 rfl ?_
  rw [h4]; change K _ _ _ _ _ _ _ _ _ _ _ _ _ _ _ _ _ _ (.ref x2 :: _)
  refine k_iconst (v := 3) B (by decide) dX13_lockerTold_37 ?_
  refine k_iload_n B 1 rfl rfl dX13_lockerTold_38 ?_
  refine k_imul B dX13_lockerTold_39 ?_
  refine k_iload_n B 2 rfl rfl dX13_lockerTold_40 ?_
  refine k_iadd B dX13_lockerTold_41 ?_
  refine k_iconst (v := 2) B (by decide) dX13_lockerTold_42 ?_
  refine k_isub B dX13_lockerTold_43 ?_
  refine k_iald (v := (rI S x2) (((3 * v1) + v2) - 2).toNatClampNeg) B dX13_lockerTold_44 h5 h6 rfl ?_
  exact ret_I B rfl dX13_lockerTold_45 (hq)
theorem bX13_lockerTold_46 (B : Bd p s m args meth c cX13_lockerTold 5 (wsOf yX13_lockerTold cX13_lockerTold 5 (some .int)) RX13 w (some .int) "lockerTold") {v0 : Nat} {v1 : Int32} {Q : State → Prop}  (kk : K p l e rX13_lockerTold s m args below meth c 5 w 0 0 Q S 51 [(0, .ref v0), (1, .int v1), (3, .int 0), (4, .int 0)] []) : K p l e rX13_lockerTold s m args below meth c 5 w 0 0 Q S 46 [(0, .ref v0), (1, .int v1)] [] := by
  refine k_iconst (v := 0) B (by decide) dX13_lockerTold_46 ?_
  refine k_istore_n (lst' := [(3, .int 0), (0, .ref v0), (1, .int v1)]) B rfl (by decide) rfl dX13_lockerTold_47 ?_
  refine k_iconst (v := 0) B (by decide) dX13_lockerTold_48 ?_
  refine k_istore (lst' := [(4, .int 0), (3, .int 0), (0, .ref v0), (1, .int v1)]) B (by decide) rfl dX13_lockerTold_49 ?_
  refine k_sub [2, 3, 1, 0] rfl ?_
  exact kk
theorem bX13_lockerTold_51 (B : Bd p s m args meth c cX13_lockerTold 5 (wsOf yX13_lockerTold cX13_lockerTold 5 (some .int)) RX13 w (some .int) "lockerTold") {v0 : Nat} {v1 : Int32} {v3 : Int32} {v4 : Int32} {Q : State → Prop} (h1 : kd S v0 = 15) (kt : (gI S 913 v0) ≤ v4 → K p l e rX13_lockerTold s m args below meth c 5 w 0 0 Q S 102 [(3, .int v3)] []) (kf : ¬ (gI S 913 v0) ≤ v4 → K p l e rX13_lockerTold s m args below meth c 5 w 0 0 Q S 60 [(0, .ref v0), (1, .int v1), (3, .int v3), (4, .int v4)] []) : K p l e rX13_lockerTold s m args below meth c 5 w 0 0 Q S 51 [(0, .ref v0), (1, .int v1), (3, .int v3), (4, .int v4)] [] := by
  refine k_iload B 3 rfl dX13_lockerTold_51 ?_
  refine k_aload_n B 0 rfl rfl dX13_lockerTold_53 ?_
  refine k_getI (f := 913) (v := gI S 913 v0) B 14 17 rfl (by decide) rfl (by decide) rfl rfl (fun w h => in_of (uw_14 w h)) (in_of qfRX13_117) dX13_lockerTold_54 h1 rfl ?_
  refine k_icmp_ge (tgt := 102) B dX13_lockerTold_57 (by decide) (fun c => ?_) (fun c => ?_)
  · refine k_sub [2] rfl ?_
    exact kt c
  · exact kf c
theorem bX13_lockerTold_60 (B : Bd p s m args meth c cX13_lockerTold 5 (wsOf yX13_lockerTold cX13_lockerTold 5 (some .int)) RX13 w (some .int) "lockerTold") {v0 : Nat} {v1 : Int32} {v3 : Int32} {v4 : Int32} {x1 : Nat} {x2 : Nat} {Q : State → Prop} (h1 : kd S v0 = 15) (h2 : gP S 919 v0 = some x1) (h3 : kd S x1 = 14) (h4 : gP S 834 x1 = some x2) (h5 : kd S x2 = 21) (h6 : vp_in v4 (ln S x2)) (kt : ¬ ((rI S x2) v4.toNatClampNeg) = 2 → K p l e rX13_lockerTold s m args below meth c 5 w 0 0 Q S 93 [(0, .ref v0), (1, .int v1), (4, .int v4)] [.int v3]) (kf : ((rI S x2) v4.toNatClampNeg) = 2 → K p l e rX13_lockerTold s m args below meth c 5 w 0 0 Q S 75 [(0, .ref v0), (1, .int v1), (4, .int v4)] [.int v3]) : K p l e rX13_lockerTold s m args below meth c 5 w 0 0 Q S 60 [(0, .ref v0), (1, .int v1), (3, .int v3), (4, .int v4)] [] := by
  refine k_iload_n B 2 rfl rfl dX13_lockerTold_60 ?_
  refine k_aload_n B 0 rfl rfl dX13_lockerTold_61 ?_
  refine k_getP (f := 919) (r := gP S 919 v0) B 14 23 rfl (by decide) rfl (by decide) rfl rfl (fun w h => in_of (uw_14 w h)) (in_of qfRX13_70) dX13_lockerTold_62 h1 rfl ?_
  rw [h2]; change K _ _ _ _ _ _ _ _ _ _ _ _ _ _ _ _ _ _ (.ref x1 :: _)
  refine k_getPN (f := 834) (r := gP S 834 x1) B 13 2 rfl (by decide) rfl (by decide) rfl rfl (fun w h => in_of (uw_13 w h)) "LastMileModel" (nzF_3 B.2.2.2.1.2.2.2.1) dX13_lockerTold_65 h3 rfl ?_
  rw [h4]; change K _ _ _ _ _ _ _ _ _ _ _ _ _ _ _ _ _ _ (.ref x2 :: _)
  refine k_iload B 3 rfl dX13_lockerTold_68 ?_
  refine k_iald (v := (rI S x2) v4.toNatClampNeg) B dX13_lockerTold_70 h5 h6 rfl ?_
  refine k_iconst (v := 2) B (by decide) dX13_lockerTold_71 ?_
  refine k_icmp_ne (tgt := 93) B dX13_lockerTold_72 (by decide) (fun c => ?_) (fun c => ?_)
  · refine k_sub [0, 1, 3] rfl ?_
    exact kt c
  · refine k_sub [0, 1, 3] rfl ?_
    exact kf c
theorem bX13_lockerTold_75 (B : Bd p s m args meth c cX13_lockerTold 5 (wsOf yX13_lockerTold cX13_lockerTold 5 (some .int)) RX13 w (some .int) "lockerTold") {v0 : Nat} {v1 : Int32} {v4 : Int32} {t0 : Int32} {x1 : Nat} {x2 : Nat} {Q : State → Prop} (h1 : kd S v0 = 15) (h2 : gP S 919 v0 = some x1) (h3 : kd S x1 = 14) (h4 : gP S 836 x1 = some x2) (h5 : kd S x2 = 21) (h6 : vp_in v4 (ln S x2)) (kt : ¬ ((rI S x2) v4.toNatClampNeg) = v1 → K p l e rX13_lockerTold s m args below meth c 5 w 0 0 Q S 93 [(0, .ref v0), (1, .int v1), (4, .int v4)] [.int t0]) (kf : ((rI S x2) v4.toNatClampNeg) = v1 → K p l e rX13_lockerTold s m args below meth c 5 w 0 0 Q S 89 [(0, .ref v0), (1, .int v1), (4, .int v4)] [.int t0]) : K p l e rX13_lockerTold s m args below meth c 5 w 0 0 Q S 75 [(0, .ref v0), (1, .int v1), (4, .int v4)] [.int t0] := by
  refine k_aload_n B 0 rfl rfl dX13_lockerTold_75 ?_
  refine k_getP (f := 919) (r := gP S 919 v0) B 14 23 rfl (by decide) rfl (by decide) rfl rfl (fun w h => in_of (uw_14 w h)) (in_of qfRX13_70) dX13_lockerTold_76 h1 rfl ?_
  rw [h2]; change K _ _ _ _ _ _ _ _ _ _ _ _ _ _ _ _ _ _ (.ref x1 :: _)
  refine k_getPN (f := 836) (r := gP S 836 x1) B 13 4 rfl (by decide) rfl (by decide) rfl rfl (fun w h => in_of (uw_13 w h)) "LastMileModel" (nzF_2 B.2.2.2.1.2.2.2.1) dX13_lockerTold_79 h3 rfl ?_
  rw [h4]; change K _ _ _ _ _ _ _ _ _ _ _ _ _ _ _ _ _ _ (.ref x2 :: _)
  refine k_iload B 2 rfl dX13_lockerTold_82 ?_
  refine k_iald (v := (rI S x2) v4.toNatClampNeg) B dX13_lockerTold_84 h5 h6 rfl ?_
  refine k_iload_n B 1 rfl rfl dX13_lockerTold_85 ?_
  refine k_icmp_ne (tgt := 93) B dX13_lockerTold_86 (by decide) (fun c => ?_) (fun c => ?_)
  · exact kt c
  · exact kf c
theorem bX13_lockerTold_89 (B : Bd p s m args meth c cX13_lockerTold 5 (wsOf yX13_lockerTold cX13_lockerTold 5 (some .int)) RX13 w (some .int) "lockerTold") {v0 : Nat} {v1 : Int32} {v4 : Int32} {t0 : Int32} {Q : State → Prop}  (kk : K p l e rX13_lockerTold s m args below meth c 5 w 0 0 Q S 94 [(0, .ref v0), (1, .int v1), (4, .int v4)] [.int 1, .int t0]) : K p l e rX13_lockerTold s m args below meth c 5 w 0 0 Q S 89 [(0, .ref v0), (1, .int v1), (4, .int v4)] [.int t0] := by
  refine k_iconst (v := 1) B (by decide) dX13_lockerTold_89 ?_
  refine k_goto (tgt := 94) B dX13_lockerTold_90 (by decide) ?_
  exact kk
theorem bX13_lockerTold_93 (B : Bd p s m args meth c cX13_lockerTold 5 (wsOf yX13_lockerTold cX13_lockerTold 5 (some .int)) RX13 w (some .int) "lockerTold") {v0 : Nat} {v1 : Int32} {v4 : Int32} {t0 : Int32} {Q : State → Prop}  (kk : K p l e rX13_lockerTold s m args below meth c 5 w 0 0 Q S 94 [(0, .ref v0), (1, .int v1), (4, .int v4)] [.int 0, .int t0]) : K p l e rX13_lockerTold s m args below meth c 5 w 0 0 Q S 93 [(0, .ref v0), (1, .int v1), (4, .int v4)] [.int t0] := by
  refine k_iconst (v := 0) B (by decide) dX13_lockerTold_93 ?_
  exact kk
theorem bX13_lockerTold_94 (B : Bd p s m args meth c cX13_lockerTold 5 (wsOf yX13_lockerTold cX13_lockerTold 5 (some .int)) RX13 w (some .int) "lockerTold") {v0 : Nat} {v1 : Int32} {v4 : Int32} {t0 : Int32} {t1 : Int32} {Q : State → Prop}  (kk : K p l e rX13_lockerTold s m args below meth c 5 w 0 0 Q S 51 [(0, .ref v0), (1, .int v1), (3, .int (t0 + t1)), (4, .int (v4 + 1))] []) : K p l e rX13_lockerTold s m args below meth c 5 w 0 0 Q S 94 [(0, .ref v0), (1, .int v1), (4, .int v4)] [.int t1, .int t0] := by
  refine k_iadd B dX13_lockerTold_94 ?_
  refine k_istore_n (lst' := [(3, .int (t0 + t1)), (0, .ref v0), (1, .int v1), (4, .int v4)]) B rfl (by decide) rfl dX13_lockerTold_95 ?_
  refine k_iinc (v := v4 + 1) (lst' := [(4, .int (v4 + 1)), (3, .int (t0 + t1)), (0, .ref v0), (1, .int v1)]) B 3 rfl rfl (by decide) rfl dX13_lockerTold_96 ?_
  refine k_goto (tgt := 51) B dX13_lockerTold_99 (by decide) ?_
  refine k_sub [2, 3, 1, 0] rfl ?_
  exact kk
theorem bX13_lockerTold_102 (B : Bd p s m args meth c cX13_lockerTold 5 (wsOf yX13_lockerTold cX13_lockerTold 5 (some .int)) RX13 w (some .int) "lockerTold") {v3 : Int32} {post : Int32 → St → Prop}  (hq : post v3 S) : K p l e rX13_lockerTold s m args below meth c 5 w 0 0 (MQ below (va_Qi post (fun S' t => Hd w S' t.heap) (wA w)) args s 0 0 (wA w)) S 102 [(3, .int v3)] [] := by
  refine k_iload_n B 0 rfl rfl dX13_lockerTold_102 ?_
  exact ret_I B rfl dX13_lockerTold_103 (hq)
theorem bX13_locker_0 (B : Bd p s m args meth c cX13_locker 3 (wsOf yX13_locker cX13_locker 3 (some .int)) RX13 w (some .int) "locker") {v0 : Nat} {v1 : Int32} {v2 : Int32} {post : Int32 → St → Prop} {Q : State → Prop} (h1 : kd S v0 = 15) (hc : ConI l yX13_isLocker (wsOf yX13_isLocker cX13_isLocker 2 (some .boolean)) rX13_isLocker w (sI S 896 v0 0) [.ref v0, .int v1] post) (kk : ∀ (r : Int32) (S' : St), post r S' → K p l e rX13_locker s m args below meth c 3 w 0 0 Q S' 10 [(0, .ref v0), (1, .int v1), (2, .int v2)] [.int r]) : K p l e rX13_locker s m args below meth c 3 w 0 0 Q S 0 [(0, .ref v0), (1, .int v1), (2, .int v2)] [] := by
  refine k_aload_n B 0 rfl rfl dX13_locker_0 ?_
  refine k_iconst (v := 0) B (by decide) dX13_locker_1 ?_
  refine k_putI (f := 896) B 14 0 rfl (by decide) rfl (by decide) rfl rfl (fun w h => in_of (uw_14 w h)) (in_of qfRX13_95) tyX13 tyX13_ok nmX13 rfl (tyX13_ok 0 (by decide)) dX13_locker_2 h1 ?_
  refine k_aload_n B 0 rfl rfl dX13_locker_5 ?_
  refine k_iload_n B 1 rfl rfl dX13_locker_6 ?_
  refine callV_I (st := []) B [.int v1] (hc) (cwV 1 B.1.2.2.2.2 (gV qlRX13_132 qiX13_isLocker qeX13_isLocker qzRX13 qcX13_isLocker) rfl rfl rfl (by decide +kernel) ⟨Nat.le_of_ble_eq_true rfl, Nat.le_of_ble_eq_true rfl⟩) rfl rfl (by decide) h1 (Nat.le_of_ble_eq_true rfl) rfl dX13_locker_7 ⟨Nat.le_of_ble_eq_true rfl, Nat.le_of_ble_eq_true rfl⟩ (fun r S' hp => ?_)
  exact kk r S' hp
theorem bX13_locker_10 (B : Bd p s m args meth c cX13_locker 3 (wsOf yX13_locker cX13_locker 3 (some .int)) RX13 w (some .int) "locker") {v0 : Nat} {v1 : Int32} {v2 : Int32} {t0 : Int32} {Q : State → Prop}  (kt : t0 = 0 → K p l e rX13_locker s m args below meth c 3 w 0 0 Q S 31 [(0, .ref v0)] []) (kf : ¬ t0 = 0 → K p l e rX13_locker s m args below meth c 3 w 0 0 Q S 13 [(0, .ref v0), (1, .int v1), (2, .int v2)] []) : K p l e rX13_locker s m args below meth c 3 w 0 0 Q S 10 [(0, .ref v0), (1, .int v1), (2, .int v2)] [.int t0] := by
  refine k_if_eq (tgt := 31) B dX13_locker_10 (by decide) (fun c => ?_) (fun c => ?_)
  · refine k_sub [0] rfl ?_
    exact kt c
  · exact kf c
theorem bX13_locker_13 (B : Bd p s m args meth c cX13_locker 3 (wsOf yX13_locker cX13_locker 3 (some .int)) RX13 w (some .int) "locker") {v0 : Nat} {v1 : Int32} {v2 : Int32} {post : Int32 → St → Prop} {Q : State → Prop} (hc : ConI l yX13_isIn (wsOf yX13_isIn cX13_isIn 3 (some .boolean)) rX13_isIn w S [.int v2, .int 0, .int 5] post) (kk : ∀ (r : Int32) (S' : St), post r S' → K p l e rX13_locker s m args below meth c 3 w 0 0 Q S' 19 [(0, .ref v0), (1, .int v1), (2, .int v2)] [.int r]) : K p l e rX13_locker s m args below meth c 3 w 0 0 Q S 13 [(0, .ref v0), (1, .int v1), (2, .int v2)] [] := by
  refine k_iload_n B 2 rfl rfl dX13_locker_13 ?_
  refine k_iconst (v := 0) B (by decide) dX13_locker_14 ?_
  refine k_iconst (v := 5) B (by decide) dX13_locker_15 ?_
  refine callS_I (st := []) B [.int v2, .int 0, .int 5] (hc) (va_cwS 3 B.1.2.2.2.2 (gS qlRX13_98 qsX13_isIn qzRX13 qcX13_isIn) rfl rfl rfl (by decide +kernel) ⟨Nat.le_of_ble_eq_true rfl, Nat.le_of_ble_eq_true rfl⟩) rfl (Nat.le_of_ble_eq_true rfl) rfl dX13_locker_16 ⟨Nat.le_of_ble_eq_true rfl, Nat.le_of_ble_eq_true rfl⟩ (fun r S' hp => ?_)
  exact kk r S' hp
theorem bX13_locker_19 (B : Bd p s m args meth c cX13_locker 3 (wsOf yX13_locker cX13_locker 3 (some .int)) RX13 w (some .int) "locker") {v0 : Nat} {v1 : Int32} {v2 : Int32} {t0 : Int32} {Q : State → Prop}  (kt : t0 = 0 → K p l e rX13_locker s m args below meth c 3 w 0 0 Q S 31 [(0, .ref v0)] []) (kf : ¬ t0 = 0 → K p l e rX13_locker s m args below meth c 3 w 0 0 Q S 22 [(0, .ref v0), (1, .int v1), (2, .int v2)] []) : K p l e rX13_locker s m args below meth c 3 w 0 0 Q S 19 [(0, .ref v0), (1, .int v1), (2, .int v2)] [.int t0] := by
  refine k_if_eq (tgt := 31) B dX13_locker_19 (by decide) (fun c => ?_) (fun c => ?_)
  · refine k_sub [0] rfl ?_
    exact kt c
  · exact kf c
theorem bX13_locker_22 (B : Bd p s m args meth c cX13_locker 3 (wsOf yX13_locker cX13_locker 3 (some .int)) RX13 w (some .int) "locker") {v0 : Nat} {v1 : Int32} {v2 : Int32} {post : Int32 → St → Prop} {Q : State → Prop} (hc : ConI l yX13_lockerTold (wsOf yX13_lockerTold cX13_lockerTold 5 (some .int)) rX13_lockerTold w S [.ref v0, .int v1, .int v2] post) (h1 : kd S v0 = 15) (kk : ∀ (r : Int32) (S' : St), post r S' → K p l e rX13_locker s m args below meth c 3 w 0 0 Q S' 28 [] [.int r]) : K p l e rX13_locker s m args below meth c 3 w 0 0 Q S 22 [(0, .ref v0), (1, .int v1), (2, .int v2)] [] := by
  refine k_aload_n B 0 rfl rfl dX13_locker_22 ?_
  refine k_iload_n B 1 rfl rfl dX13_locker_23 ?_
  refine k_iload_n B 2 rfl rfl dX13_locker_24 ?_
  refine callV_I (st := []) B [.int v1, .int v2] (hc) (cwV 2 B.1.2.2.2.2 (gV qlRX13_154 qiX13_lockerTold qeX13_lockerTold qzRX13 qcX13_lockerTold) rfl rfl rfl (by decide +kernel) ⟨Nat.le_of_ble_eq_true rfl, Nat.le_of_ble_eq_true rfl⟩) rfl rfl (by decide) h1 (Nat.le_of_ble_eq_true rfl) rfl dX13_locker_25 ⟨Nat.le_of_ble_eq_true rfl, Nat.le_of_ble_eq_true rfl⟩ (fun r S' hp => ?_)
  refine k_sub [] rfl ?_
  exact kk r S' hp
theorem bX13_locker_28 (B : Bd p s m args meth c cX13_locker 3 (wsOf yX13_locker cX13_locker 3 (some .int)) RX13 w (some .int) "locker") {t0 : Int32} {Q : State → Prop}  (kk : K p l e rX13_locker s m args below meth c 3 w 0 0 Q S 36 [] [.int t0]) : K p l e rX13_locker s m args below meth c 3 w 0 0 Q S 28 [] [.int t0] := by
  refine k_goto (tgt := 36) B dX13_locker_28 (by decide) ?_
  exact kk
theorem bX13_locker_31 (B : Bd p s m args meth c cX13_locker 3 (wsOf yX13_locker cX13_locker 3 (some .int)) RX13 w (some .int) "locker") {v0 : Nat} {post : Int32 → St → Prop} {Q : State → Prop} (hc : ConI l yX13_no (wsOf yX13_no cX13_no 2 (some .int)) rX13_no w S [.ref v0, .int 1] post) (h1 : kd S v0 = 15) (kk : ∀ (r : Int32) (S' : St), post r S' → K p l e rX13_locker s m args below meth c 3 w 0 0 Q S' 36 [] [.int r]) : K p l e rX13_locker s m args below meth c 3 w 0 0 Q S 31 [(0, .ref v0)] [] := by
  refine k_aload_n B 0 rfl rfl dX13_locker_31 ?_
  refine k_iconst (v := 1) B (by decide) dX13_locker_32 ?_
  refine callV_I (st := []) B [.int 1] (hc) (cwV 1 B.1.2.2.2.2 (gV qlRX13_120 qiX13_no qeX13_no qzRX13 qcX13_no) rfl rfl rfl (by decide +kernel) ⟨Nat.le_of_ble_eq_true rfl, Nat.le_of_ble_eq_true rfl⟩) rfl rfl (by decide) h1 (Nat.le_of_ble_eq_true rfl) rfl dX13_locker_33 ⟨Nat.le_of_ble_eq_true rfl, Nat.le_of_ble_eq_true rfl⟩ (fun r S' hp => ?_)
  refine k_sub [] rfl ?_
  exact kk r S' hp
theorem bX13_locker_36 (B : Bd p s m args meth c cX13_locker 3 (wsOf yX13_locker cX13_locker 3 (some .int)) RX13 w (some .int) "locker") {t0 : Int32} {post : Int32 → St → Prop}  (hq : post t0 S) : K p l e rX13_locker s m args below meth c 3 w 0 0 (MQ below (va_Qi post (fun S' t => Hd w S' t.heap) (wA w)) args s 0 0 (wA w)) S 36 [] [.int t0] := by
  exact ret_I B rfl dX13_locker_36 (hq)
theorem bX13_parcelTold_0 (B : Bd p s m args meth c cX13_parcelTold 4 (wsOf yX13_parcelTold cX13_parcelTold 4 (some .int)) RX13 w (some .int) "parcelTold") {v0 : Nat} {v1 : Int32} {v2 : Int32} {k n : Nat} {Q : State → Prop} (h1 : k + 1 ≤ rX13_parcelTold.cells) (h2 : n + 9 ≤ rX13_parcelTold.slots) (kk : ∀ q2 : Nat, kd S q2 = 0 → K p l e rX13_parcelTold s m args below meth c 4 w (k + 1) (n + 9) Q (nw S q2 21 9) 4 [(0, .ref v0), (1, .int v1), (2, .int v2)] [.ref q2]) : K p l e rX13_parcelTold s m args below meth c 4 w k n Q S 0 [(0, .ref v0), (1, .int v1), (2, .int v2)] [] := by
  refine k_bipush (v := 9) B (by decide) dX13_parcelTold_0 ?_
  refine k_newI (N' := 9) B (in_of qarrI) (by decide) (by decide) (by decide) h1 h2 dX13_parcelTold_2 (fun q2 f2 => ?_)
  exact kk q2 f2
theorem bX13_parcelTold_4 (B : Bd p s m args meth c cX13_parcelTold 4 (wsOf yX13_parcelTold cX13_parcelTold 4 (some .int)) RX13 w (some .int) "parcelTold") {v0 : Nat} {v1 : Int32} {v2 : Int32} {t0 : Nat} {x1 : Nat} {x2 : Nat} {x3 : Nat} {x4 : Nat} {x5 : Nat} {x6 : Nat} {x7 : Nat} {x8 : Nat} {x9 : Nat} {x10 : Nat} {post : Int32 → St → Prop} {k n : Nat} {Q : State → Prop} (h1 : kd S v0 = 15) (h2 : gP S 914 v0 = some x1) (h3 : kd S x1 = 21) (h4 : vp_in v1 (ln S x1)) (h5 : kd S t0 = 21) (h6 : vp_in 0 (ln S t0)) (h7 : gP S 915 v0 = some x2) (h8 : kd S x2 = 21) (h9 : vp_in v1 (ln S x2)) (h10 : vp_in 1 (ln S t0)) (h11 : gP S 916 v0 = some x3) (h12 : kd S x3 = 21) (h13 : vp_in v1 (ln S x3)) (h14 : vp_in 2 (ln S t0)) (h15 : gP S 917 v0 = some x4) (h16 : kd S x4 = 21) (h17 : vp_in v1 (ln S x4)) (h18 : vp_in 3 (ln S t0)) (h19 : gP S 918 v0 = some x5) (h20 : kd S x5 = 21) (h21 : vp_in v1 (ln S x5)) (h22 : vp_in 4 (ln S t0)) (h23 : gP S 919 v0 = some x6) (h24 : kd S x6 = 14) (h25 : gP S 835 x6 = some x7) (h26 : kd S x7 = 21) (h27 : vp_in v1 (ln S x7)) (h28 : vp_in 5 (ln S t0)) (h29 : gP S 919 v0 = some x8) (h30 : kd S x8 = 14) (h31 : gP S 834 x8 = some x9) (h32 : kd S x9 = 21) (h33 : vp_in v1 (ln S x9)) (h34 : vp_in 6 (ln S t0)) (h35 : gP S 919 v0 = some x10) (hc : ConI l yX12_vanOf (wsOf yX12_vanOf cX12_vanOf 4 (some .int)) rX12_vanOf w (sRI S t0 (va_up (va_up (va_up (va_up (va_up (va_up (va_up (rI S t0) (0 : Int32).toNatClampNeg ((rI S x1) v1.toNatClampNeg)) (1 : Int32).toNatClampNeg ((rI (sRI S t0 (va_up (rI S t0) (0 : Int32).toNatClampNeg ((rI S x1) v1.toNatClampNeg))) x2) v1.toNatClampNeg)) (2 : Int32).toNatClampNeg ((rI (sRI S t0 (va_up (va_up (rI S t0) (0 : Int32).toNatClampNeg ((rI S x1) v1.toNatClampNeg)) (1 : Int32).toNatClampNeg ((rI (sRI S t0 (va_up (rI S t0) (0 : Int32).toNatClampNeg ((rI S x1) v1.toNatClampNeg))) x2) v1.toNatClampNeg))) x3) v1.toNatClampNeg)) (3 : Int32).toNatClampNeg ((rI (sRI S t0 (va_up (va_up (va_up (rI S t0) (0 : Int32).toNatClampNeg ((rI S x1) v1.toNatClampNeg)) (1 : Int32).toNatClampNeg ((rI (sRI S t0 (va_up (rI S t0) (0 : Int32).toNatClampNeg ((rI S x1) v1.toNatClampNeg))) x2) v1.toNatClampNeg)) (2 : Int32).toNatClampNeg ((rI (sRI S t0 (va_up (va_up (rI S t0) (0 : Int32).toNatClampNeg ((rI S x1) v1.toNatClampNeg)) (1 : Int32).toNatClampNeg ((rI (sRI S t0 (va_up (rI S t0) (0 : Int32).toNatClampNeg ((rI S x1) v1.toNatClampNeg))) x2) v1.toNatClampNeg))) x3) v1.toNatClampNeg))) x4) v1.toNatClampNeg)) (4 : Int32).toNatClampNeg ((rI (sRI S t0 (va_up (va_up (va_up (va_up (rI S t0) (0 : Int32).toNatClampNeg ((rI S x1) v1.toNatClampNeg)) (1 : Int32).toNatClampNeg ((rI (sRI S t0 (va_up (rI S t0) (0 : Int32).toNatClampNeg ((rI S x1) v1.toNatClampNeg))) x2) v1.toNatClampNeg)) (2 : Int32).toNatClampNeg ((rI (sRI S t0 (va_up (va_up (rI S t0) (0 : Int32).toNatClampNeg ((rI S x1) v1.toNatClampNeg)) (1 : Int32).toNatClampNeg ((rI (sRI S t0 (va_up (rI S t0) (0 : Int32).toNatClampNeg ((rI S x1) v1.toNatClampNeg))) x2) v1.toNatClampNeg))) x3) v1.toNatClampNeg)) (3 : Int32).toNatClampNeg ((rI (sRI S t0 (va_up (va_up (va_up (rI S t0) (0 : Int32).toNatClampNeg ((rI S x1) v1.toNatClampNeg)) (1 : Int32).toNatClampNeg ((rI (sRI S t0 (va_up (rI S t0) (0 : Int32).toNatClampNeg ((rI S x1) v1.toNatClampNeg))) x2) v1.toNatClampNeg)) (2 : Int32).toNatClampNeg ((rI (sRI S t0 (va_up (va_up (rI S t0) (0 : Int32).toNatClampNeg ((rI S x1) v1.toNatClampNeg)) (1 : Int32).toNatClampNeg ((rI (sRI S t0 (va_up (rI S t0) (0 : Int32).toNatClampNeg ((rI S x1) v1.toNatClampNeg))) x2) v1.toNatClampNeg))) x3) v1.toNatClampNeg))) x4) v1.toNatClampNeg))) x5) v1.toNatClampNeg)) (5 : Int32).toNatClampNeg ((rI (sRI S t0 (va_up (va_up (va_up (va_up (va_up (rI S t0) (0 : Int32).toNatClampNeg ((rI S x1) v1.toNatClampNeg)) (1 : Int32).toNatClampNeg ((rI (sRI S t0 (va_up (rI S t0) (0 : Int32).toNatClampNeg ((rI S x1) v1.toNatClampNeg))) x2) v1.toNatClampNeg)) (2 : Int32).toNatClampNeg ((rI (sRI S t0 (va_up (va_up (rI S t0) (0 : Int32).toNatClampNeg ((rI S x1) v1.toNatClampNeg)) (1 : Int32).toNatClampNeg ((rI (sRI S t0 (va_up (rI S t0) (0 : Int32).toNatClampNeg ((rI S x1) v1.toNatClampNeg))) x2) v1.toNatClampNeg))) x3) v1.toNatClampNeg)) (3 : Int32).toNatClampNeg ((rI (sRI S t0 (va_up (va_up (va_up (rI S t0) (0 : Int32).toNatClampNeg ((rI S x1) v1.toNatClampNeg)) (1 : Int32).toNatClampNeg ((rI (sRI S t0 (va_up (rI S t0) (0 : Int32).toNatClampNeg ((rI S x1) v1.toNatClampNeg))) x2) v1.toNatClampNeg)) (2 : Int32).toNatClampNeg ((rI (sRI S t0 (va_up (va_up (rI S t0) (0 : Int32).toNatClampNeg ((rI S x1) v1.toNatClampNeg)) (1 : Int32).toNatClampNeg ((rI (sRI S t0 (va_up (rI S t0) (0 : Int32).toNatClampNeg ((rI S x1) v1.toNatClampNeg))) x2) v1.toNatClampNeg))) x3) v1.toNatClampNeg))) x4) v1.toNatClampNeg)) (4 : Int32).toNatClampNeg ((rI (sRI S t0 (va_up (va_up (va_up (va_up (rI S t0) (0 : Int32).toNatClampNeg ((rI S x1) v1.toNatClampNeg)) (1 : Int32).toNatClampNeg ((rI (sRI S t0 (va_up (rI S t0) (0 : Int32).toNatClampNeg ((rI S x1) v1.toNatClampNeg))) x2) v1.toNatClampNeg)) (2 : Int32).toNatClampNeg ((rI (sRI S t0 (va_up (va_up (rI S t0) (0 : Int32).toNatClampNeg ((rI S x1) v1.toNatClampNeg)) (1 : Int32).toNatClampNeg ((rI (sRI S t0 (va_up (rI S t0) (0 : Int32).toNatClampNeg ((rI S x1) v1.toNatClampNeg))) x2) v1.toNatClampNeg))) x3) v1.toNatClampNeg)) (3 : Int32).toNatClampNeg ((rI (sRI S t0 (va_up (va_up (va_up (rI S t0) (0 : Int32).toNatClampNeg ((rI S x1) v1.toNatClampNeg)) (1 : Int32).toNatClampNeg ((rI (sRI S t0 (va_up (rI S t0) (0 : Int32).toNatClampNeg ((rI S x1) v1.toNatClampNeg))) x2) v1.toNatClampNeg)) (2 : Int32).toNatClampNeg ((rI (sRI S t0 (va_up (va_up (rI S t0) (0 : Int32).toNatClampNeg ((rI S x1) v1.toNatClampNeg)) (1 : Int32).toNatClampNeg ((rI (sRI S t0 (va_up (rI S t0) (0 : Int32).toNatClampNeg ((rI S x1) v1.toNatClampNeg))) x2) v1.toNatClampNeg))) x3) v1.toNatClampNeg))) x4) v1.toNatClampNeg))) x5) v1.toNatClampNeg))) x7) v1.toNatClampNeg)) (6 : Int32).toNatClampNeg ((rI (sRI S t0 (va_up (va_up (va_up (va_up (va_up (va_up (rI S t0) (0 : Int32).toNatClampNeg ((rI S x1) v1.toNatClampNeg)) (1 : Int32).toNatClampNeg ((rI (sRI S t0 (va_up (rI S t0) (0 : Int32).toNatClampNeg ((rI S x1) v1.toNatClampNeg))) x2) v1.toNatClampNeg)) (2 : Int32).toNatClampNeg ((rI (sRI S t0 (va_up (va_up (rI S t0) (0 : Int32).toNatClampNeg ((rI S x1) v1.toNatClampNeg)) (1 : Int32).toNatClampNeg ((rI (sRI S t0 (va_up (rI S t0) (0 : Int32).toNatClampNeg ((rI S x1) v1.toNatClampNeg))) x2) v1.toNatClampNeg))) x3) v1.toNatClampNeg)) (3 : Int32).toNatClampNeg ((rI (sRI S t0 (va_up (va_up (va_up (rI S t0) (0 : Int32).toNatClampNeg ((rI S x1) v1.toNatClampNeg)) (1 : Int32).toNatClampNeg ((rI (sRI S t0 (va_up (rI S t0) (0 : Int32).toNatClampNeg ((rI S x1) v1.toNatClampNeg))) x2) v1.toNatClampNeg)) (2 : Int32).toNatClampNeg ((rI (sRI S t0 (va_up (va_up (rI S t0) (0 : Int32).toNatClampNeg ((rI S x1) v1.toNatClampNeg)) (1 : Int32).toNatClampNeg ((rI (sRI S t0 (va_up (rI S t0) (0 : Int32).toNatClampNeg ((rI S x1) v1.toNatClampNeg))) x2) v1.toNatClampNeg))) x3) v1.toNatClampNeg))) x4) v1.toNatClampNeg)) (4 : Int32).toNatClampNeg ((rI (sRI S t0 (va_up (va_up (va_up (va_up (rI S t0) (0 : Int32).toNatClampNeg ((rI S x1) v1.toNatClampNeg)) (1 : Int32).toNatClampNeg ((rI (sRI S t0 (va_up (rI S t0) (0 : Int32).toNatClampNeg ((rI S x1) v1.toNatClampNeg))) x2) v1.toNatClampNeg)) (2 : Int32).toNatClampNeg ((rI (sRI S t0 (va_up (va_up (rI S t0) (0 : Int32).toNatClampNeg ((rI S x1) v1.toNatClampNeg)) (1 : Int32).toNatClampNeg ((rI (sRI S t0 (va_up (rI S t0) (0 : Int32).toNatClampNeg ((rI S x1) v1.toNatClampNeg))) x2) v1.toNatClampNeg))) x3) v1.toNatClampNeg)) (3 : Int32).toNatClampNeg ((rI (sRI S t0 (va_up (va_up (va_up (rI S t0) (0 : Int32).toNatClampNeg ((rI S x1) v1.toNatClampNeg)) (1 : Int32).toNatClampNeg ((rI (sRI S t0 (va_up (rI S t0) (0 : Int32).toNatClampNeg ((rI S x1) v1.toNatClampNeg))) x2) v1.toNatClampNeg)) (2 : Int32).toNatClampNeg ((rI (sRI S t0 (va_up (va_up (rI S t0) (0 : Int32).toNatClampNeg ((rI S x1) v1.toNatClampNeg)) (1 : Int32).toNatClampNeg ((rI (sRI S t0 (va_up (rI S t0) (0 : Int32).toNatClampNeg ((rI S x1) v1.toNatClampNeg))) x2) v1.toNatClampNeg))) x3) v1.toNatClampNeg))) x4) v1.toNatClampNeg))) x5) v1.toNatClampNeg)) (5 : Int32).toNatClampNeg ((rI (sRI S t0 (va_up (va_up (va_up (va_up (va_up (rI S t0) (0 : Int32).toNatClampNeg ((rI S x1) v1.toNatClampNeg)) (1 : Int32).toNatClampNeg ((rI (sRI S t0 (va_up (rI S t0) (0 : Int32).toNatClampNeg ((rI S x1) v1.toNatClampNeg))) x2) v1.toNatClampNeg)) (2 : Int32).toNatClampNeg ((rI (sRI S t0 (va_up (va_up (rI S t0) (0 : Int32).toNatClampNeg ((rI S x1) v1.toNatClampNeg)) (1 : Int32).toNatClampNeg ((rI (sRI S t0 (va_up (rI S t0) (0 : Int32).toNatClampNeg ((rI S x1) v1.toNatClampNeg))) x2) v1.toNatClampNeg))) x3) v1.toNatClampNeg)) (3 : Int32).toNatClampNeg ((rI (sRI S t0 (va_up (va_up (va_up (rI S t0) (0 : Int32).toNatClampNeg ((rI S x1) v1.toNatClampNeg)) (1 : Int32).toNatClampNeg ((rI (sRI S t0 (va_up (rI S t0) (0 : Int32).toNatClampNeg ((rI S x1) v1.toNatClampNeg))) x2) v1.toNatClampNeg)) (2 : Int32).toNatClampNeg ((rI (sRI S t0 (va_up (va_up (rI S t0) (0 : Int32).toNatClampNeg ((rI S x1) v1.toNatClampNeg)) (1 : Int32).toNatClampNeg ((rI (sRI S t0 (va_up (rI S t0) (0 : Int32).toNatClampNeg ((rI S x1) v1.toNatClampNeg))) x2) v1.toNatClampNeg))) x3) v1.toNatClampNeg))) x4) v1.toNatClampNeg)) (4 : Int32).toNatClampNeg ((rI (sRI S t0 (va_up (va_up (va_up (va_up (rI S t0) (0 : Int32).toNatClampNeg ((rI S x1) v1.toNatClampNeg)) (1 : Int32).toNatClampNeg ((rI (sRI S t0 (va_up (rI S t0) (0 : Int32).toNatClampNeg ((rI S x1) v1.toNatClampNeg))) x2) v1.toNatClampNeg)) (2 : Int32).toNatClampNeg ((rI (sRI S t0 (va_up (va_up (rI S t0) (0 : Int32).toNatClampNeg ((rI S x1) v1.toNatClampNeg)) (1 : Int32).toNatClampNeg ((rI (sRI S t0 (va_up (rI S t0) (0 : Int32).toNatClampNeg ((rI S x1) v1.toNatClampNeg))) x2) v1.toNatClampNeg))) x3) v1.toNatClampNeg)) (3 : Int32).toNatClampNeg ((rI (sRI S t0 (va_up (va_up (va_up (rI S t0) (0 : Int32).toNatClampNeg ((rI S x1) v1.toNatClampNeg)) (1 : Int32).toNatClampNeg ((rI (sRI S t0 (va_up (rI S t0) (0 : Int32).toNatClampNeg ((rI S x1) v1.toNatClampNeg))) x2) v1.toNatClampNeg)) (2 : Int32).toNatClampNeg ((rI (sRI S t0 (va_up (va_up (rI S t0) (0 : Int32).toNatClampNeg ((rI S x1) v1.toNatClampNeg)) (1 : Int32).toNatClampNeg ((rI (sRI S t0 (va_up (rI S t0) (0 : Int32).toNatClampNeg ((rI S x1) v1.toNatClampNeg))) x2) v1.toNatClampNeg))) x3) v1.toNatClampNeg))) x4) v1.toNatClampNeg))) x5) v1.toNatClampNeg))) x7) v1.toNatClampNeg))) x9) v1.toNatClampNeg))) [.ref x10, .int v1] post) (h36 : k + 0 ≤ rX13_parcelTold.cells) (h37 : n + 0 ≤ rX13_parcelTold.slots) (h38 : kd S x10 = 14) (kk : ∀ (r : Int32) (S' : St), post r S' → K p l e rX13_parcelTold s m args below meth c 4 w k n Q S' 85 [(0, .ref v0), (1, .int v1), (2, .int v2)] [.int r, .int 7, .ref t0, .ref t0]) : K p l e rX13_parcelTold s m args below meth c 4 w k n Q S 4 [(0, .ref v0), (1, .int v1), (2, .int v2)] [.ref t0] := by
  refine k_dup B rfl dX13_parcelTold_4 ?_
  refine k_iconst (v := 0) B (by decide) dX13_parcelTold_5 ?_
  refine k_aload_n B 0 rfl rfl dX13_parcelTold_6 ?_
  refine k_getP (f := 914) (r := gP S 914 v0) B 14 18 rfl (by decide) rfl (by decide) rfl rfl (fun w h => in_of (uw_14 w h)) (in_of qfRX13_50) dX13_parcelTold_7 h1 rfl ?_
  rw [h2]; change K _ _ _ _ _ _ _ _ _ _ _ _ _ _ _ _ _ _ (.ref x1 :: _)
  refine k_iload_n B 1 rfl rfl dX13_parcelTold_10 ?_
  refine k_iald (v := (rI S x1) v1.toNatClampNeg) B dX13_parcelTold_11 h3 h4 rfl ?_
  refine k_iast (g := rI S t0) (S' := sRI S t0 (va_up (rI S t0) (0 : Int32).toNatClampNeg ((rI S x1) v1.toNatClampNeg))) B dX13_parcelTold_12 h5 h6 rfl rfl ?_
  refine k_dup B rfl dX13_parcelTold_13 ?_
  refine k_iconst (v := 1) B (by decide) dX13_parcelTold_14 ?_
  refine k_aload_n B 0 rfl rfl dX13_parcelTold_15 ?_
  refine k_getP (f := 915) (r := gP S 915 v0) B 14 19 rfl (by decide) rfl (by decide) rfl rfl (fun w h => in_of (uw_14 w h)) (in_of qfRX13_53) dX13_parcelTold_16 h1 rfl ?_
  rw [h7]; change K _ _ _ _ _ _ _ _ _ _ _ _ _ _ _ _ _ _ (.ref x2 :: _)
  refine k_iload_n B 1 rfl rfl dX13_parcelTold_19 ?_
  refine k_iald (v := (rI (sRI S t0 (va_up (rI S t0) (0 : Int32).toNatClampNeg ((rI S x1) v1.toNatClampNeg))) x2) v1.toNatClampNeg) B dX13_parcelTold_20 h8 h9 rfl ?_
  refine k_iast (g := va_up (rI S t0) (0 : Int32).toNatClampNeg ((rI S x1) v1.toNatClampNeg)) (S' := sRI S t0 (va_up (va_up (rI S t0) (0 : Int32).toNatClampNeg ((rI S x1) v1.toNatClampNeg)) (1 : Int32).toNatClampNeg ((rI (sRI S t0 (va_up (rI S t0) (0 : Int32).toNatClampNeg ((rI S x1) v1.toNatClampNeg))) x2) v1.toNatClampNeg))) B dX13_parcelTold_21 h5 h10 (by simp [kd_sI, kd_sP, kd_sRI, kd_sRP, kd_nw, gI_sI, gI_sP, gI_sRI, gI_sRP, gI_nw, gP_sI, gP_sP, gP_sRI, gP_sRP, gP_nw, ln_sI, ln_sP, ln_sRI, ln_sRP, ln_nw, rI_sI, rI_sP, rI_sRI, rI_sRP, rI_nw, rP_sI, rP_sP, rP_sRI, rP_sRP, rP_nw, va_up_self]) (sRI_sRI ..) ?_
  refine k_dup B rfl dX13_parcelTold_22 ?_
  refine k_iconst (v := 2) B (by decide) dX13_parcelTold_23 ?_
  refine k_aload_n B 0 rfl rfl dX13_parcelTold_24 ?_
  refine k_getP (f := 916) (r := gP S 916 v0) B 14 20 rfl (by decide) rfl (by decide) rfl rfl (fun w h => in_of (uw_14 w h)) (in_of qfRX13_56) dX13_parcelTold_25 h1 rfl ?_
  rw [h11]; change K _ _ _ _ _ _ _ _ _ _ _ _ _ _ _ _ _ _ (.ref x3 :: _)
  refine k_iload_n B 1 rfl rfl dX13_parcelTold_28 ?_
  refine k_iald (v := (rI (sRI S t0 (va_up (va_up (rI S t0) (0 : Int32).toNatClampNeg ((rI S x1) v1.toNatClampNeg)) (1 : Int32).toNatClampNeg ((rI (sRI S t0 (va_up (rI S t0) (0 : Int32).toNatClampNeg ((rI S x1) v1.toNatClampNeg))) x2) v1.toNatClampNeg))) x3) v1.toNatClampNeg) B dX13_parcelTold_29 h12 h13 rfl ?_
  refine k_iast (g := va_up (va_up (rI S t0) (0 : Int32).toNatClampNeg ((rI S x1) v1.toNatClampNeg)) (1 : Int32).toNatClampNeg ((rI (sRI S t0 (va_up (rI S t0) (0 : Int32).toNatClampNeg ((rI S x1) v1.toNatClampNeg))) x2) v1.toNatClampNeg)) (S' := sRI S t0 (va_up (va_up (va_up (rI S t0) (0 : Int32).toNatClampNeg ((rI S x1) v1.toNatClampNeg)) (1 : Int32).toNatClampNeg ((rI (sRI S t0 (va_up (rI S t0) (0 : Int32).toNatClampNeg ((rI S x1) v1.toNatClampNeg))) x2) v1.toNatClampNeg)) (2 : Int32).toNatClampNeg ((rI (sRI S t0 (va_up (va_up (rI S t0) (0 : Int32).toNatClampNeg ((rI S x1) v1.toNatClampNeg)) (1 : Int32).toNatClampNeg ((rI (sRI S t0 (va_up (rI S t0) (0 : Int32).toNatClampNeg ((rI S x1) v1.toNatClampNeg))) x2) v1.toNatClampNeg))) x3) v1.toNatClampNeg))) B dX13_parcelTold_30 h5 h14 (by simp [kd_sI, kd_sP, kd_sRI, kd_sRP, kd_nw, gI_sI, gI_sP, gI_sRI, gI_sRP, gI_nw, gP_sI, gP_sP, gP_sRI, gP_sRP, gP_nw, ln_sI, ln_sP, ln_sRI, ln_sRP, ln_nw, rI_sI, rI_sP, rI_sRI, rI_sRP, rI_nw, rP_sI, rP_sP, rP_sRI, rP_sRP, rP_nw, va_up_self]) (sRI_sRI ..) ?_
  refine k_dup B rfl dX13_parcelTold_31 ?_
  refine k_iconst (v := 3) B (by decide) dX13_parcelTold_32 ?_
  refine k_aload_n B 0 rfl rfl dX13_parcelTold_33 ?_
  refine k_getP (f := 917) (r := gP S 917 v0) B 14 21 rfl (by decide) rfl (by decide) rfl rfl (fun w h => in_of (uw_14 w h)) (in_of qfRX13_59) dX13_parcelTold_34 h1 rfl ?_
  rw [h15]; change K _ _ _ _ _ _ _ _ _ _ _ _ _ _ _ _ _ _ (.ref x4 :: _)
  refine k_iload_n B 1 rfl rfl dX13_parcelTold_37 ?_
  refine k_iald (v := (rI (sRI S t0 (va_up (va_up (va_up (rI S t0) (0 : Int32).toNatClampNeg ((rI S x1) v1.toNatClampNeg)) (1 : Int32).toNatClampNeg ((rI (sRI S t0 (va_up (rI S t0) (0 : Int32).toNatClampNeg ((rI S x1) v1.toNatClampNeg))) x2) v1.toNatClampNeg)) (2 : Int32).toNatClampNeg ((rI (sRI S t0 (va_up (va_up (rI S t0) (0 : Int32).toNatClampNeg ((rI S x1) v1.toNatClampNeg)) (1 : Int32).toNatClampNeg ((rI (sRI S t0 (va_up (rI S t0) (0 : Int32).toNatClampNeg ((rI S x1) v1.toNatClampNeg))) x2) v1.toNatClampNeg))) x3) v1.toNatClampNeg))) x4) v1.toNatClampNeg) B dX13_parcelTold_38 h16 h17 rfl ?_
  refine k_iast (g := va_up (va_up (va_up (rI S t0) (0 : Int32).toNatClampNeg ((rI S x1) v1.toNatClampNeg)) (1 : Int32).toNatClampNeg ((rI (sRI S t0 (va_up (rI S t0) (0 : Int32).toNatClampNeg ((rI S x1) v1.toNatClampNeg))) x2) v1.toNatClampNeg)) (2 : Int32).toNatClampNeg ((rI (sRI S t0 (va_up (va_up (rI S t0) (0 : Int32).toNatClampNeg ((rI S x1) v1.toNatClampNeg)) (1 : Int32).toNatClampNeg ((rI (sRI S t0 (va_up (rI S t0) (0 : Int32).toNatClampNeg ((rI S x1) v1.toNatClampNeg))) x2) v1.toNatClampNeg))) x3) v1.toNatClampNeg)) (S' := sRI S t0 (va_up (va_up (va_up (va_up (rI S t0) (0 : Int32).toNatClampNeg ((rI S x1) v1.toNatClampNeg)) (1 : Int32).toNatClampNeg ((rI (sRI S t0 (va_up (rI S t0) (0 : Int32).toNatClampNeg ((rI S x1) v1.toNatClampNeg))) x2) v1.toNatClampNeg)) (2 : Int32).toNatClampNeg ((rI (sRI S t0 (va_up (va_up (rI S t0) (0 : Int32).toNatClampNeg ((rI S x1) v1.toNatClampNeg)) (1 : Int32).toNatClampNeg ((rI (sRI S t0 (va_up (rI S t0) (0 : Int32).toNatClampNeg ((rI S x1) v1.toNatClampNeg))) x2) v1.toNatClampNeg))) x3) v1.toNatClampNeg)) (3 : Int32).toNatClampNeg ((rI (sRI S t0 (va_up (va_up (va_up (rI S t0) (0 : Int32).toNatClampNeg ((rI S x1) v1.toNatClampNeg)) (1 : Int32).toNatClampNeg ((rI (sRI S t0 (va_up (rI S t0) (0 : Int32).toNatClampNeg ((rI S x1) v1.toNatClampNeg))) x2) v1.toNatClampNeg)) (2 : Int32).toNatClampNeg ((rI (sRI S t0 (va_up (va_up (rI S t0) (0 : Int32).toNatClampNeg ((rI S x1) v1.toNatClampNeg)) (1 : Int32).toNatClampNeg ((rI (sRI S t0 (va_up (rI S t0) (0 : Int32).toNatClampNeg ((rI S x1) v1.toNatClampNeg))) x2) v1.toNatClampNeg))) x3) v1.toNatClampNeg))) x4) v1.toNatClampNeg))) B dX13_parcelTold_39 h5 h18 (by simp [kd_sI, kd_sP, kd_sRI, kd_sRP, kd_nw, gI_sI, gI_sP, gI_sRI, gI_sRP, gI_nw, gP_sI, gP_sP, gP_sRI, gP_sRP, gP_nw, ln_sI, ln_sP, ln_sRI, ln_sRP, ln_nw, rI_sI, rI_sP, rI_sRI, rI_sRP, rI_nw, rP_sI, rP_sP, rP_sRI, rP_sRP, rP_nw, va_up_self]) (sRI_sRI ..) ?_
  refine k_dup B rfl dX13_parcelTold_40 ?_
  refine k_iconst (v := 4) B (by decide) dX13_parcelTold_41 ?_
  refine k_aload_n B 0 rfl rfl dX13_parcelTold_42 ?_
  refine k_getP (f := 918) (r := gP S 918 v0) B 14 22 rfl (by decide) rfl (by decide) rfl rfl (fun w h => in_of (uw_14 w h)) (in_of qfRX13_62) dX13_parcelTold_43 h1 rfl ?_
  rw [h19]; change K _ _ _ _ _ _ _ _ _ _ _ _ _ _ _ _ _ _ (.ref x5 :: _)
  refine k_iload_n B 1 rfl rfl dX13_parcelTold_46 ?_
  refine k_iald (v := (rI (sRI S t0 (va_up (va_up (va_up (va_up (rI S t0) (0 : Int32).toNatClampNeg ((rI S x1) v1.toNatClampNeg)) (1 : Int32).toNatClampNeg ((rI (sRI S t0 (va_up (rI S t0) (0 : Int32).toNatClampNeg ((rI S x1) v1.toNatClampNeg))) x2) v1.toNatClampNeg)) (2 : Int32).toNatClampNeg ((rI (sRI S t0 (va_up (va_up (rI S t0) (0 : Int32).toNatClampNeg ((rI S x1) v1.toNatClampNeg)) (1 : Int32).toNatClampNeg ((rI (sRI S t0 (va_up (rI S t0) (0 : Int32).toNatClampNeg ((rI S x1) v1.toNatClampNeg))) x2) v1.toNatClampNeg))) x3) v1.toNatClampNeg)) (3 : Int32).toNatClampNeg ((rI (sRI S t0 (va_up (va_up (va_up (rI S t0) (0 : Int32).toNatClampNeg ((rI S x1) v1.toNatClampNeg)) (1 : Int32).toNatClampNeg ((rI (sRI S t0 (va_up (rI S t0) (0 : Int32).toNatClampNeg ((rI S x1) v1.toNatClampNeg))) x2) v1.toNatClampNeg)) (2 : Int32).toNatClampNeg ((rI (sRI S t0 (va_up (va_up (rI S t0) (0 : Int32).toNatClampNeg ((rI S x1) v1.toNatClampNeg)) (1 : Int32).toNatClampNeg ((rI (sRI S t0 (va_up (rI S t0) (0 : Int32).toNatClampNeg ((rI S x1) v1.toNatClampNeg))) x2) v1.toNatClampNeg))) x3) v1.toNatClampNeg))) x4) v1.toNatClampNeg))) x5) v1.toNatClampNeg) B dX13_parcelTold_47 h20 h21 rfl ?_
  refine k_iast (g := va_up (va_up (va_up (va_up (rI S t0) (0 : Int32).toNatClampNeg ((rI S x1) v1.toNatClampNeg)) (1 : Int32).toNatClampNeg ((rI (sRI S t0 (va_up (rI S t0) (0 : Int32).toNatClampNeg ((rI S x1) v1.toNatClampNeg))) x2) v1.toNatClampNeg)) (2 : Int32).toNatClampNeg ((rI (sRI S t0 (va_up (va_up (rI S t0) (0 : Int32).toNatClampNeg ((rI S x1) v1.toNatClampNeg)) (1 : Int32).toNatClampNeg ((rI (sRI S t0 (va_up (rI S t0) (0 : Int32).toNatClampNeg ((rI S x1) v1.toNatClampNeg))) x2) v1.toNatClampNeg))) x3) v1.toNatClampNeg)) (3 : Int32).toNatClampNeg ((rI (sRI S t0 (va_up (va_up (va_up (rI S t0) (0 : Int32).toNatClampNeg ((rI S x1) v1.toNatClampNeg)) (1 : Int32).toNatClampNeg ((rI (sRI S t0 (va_up (rI S t0) (0 : Int32).toNatClampNeg ((rI S x1) v1.toNatClampNeg))) x2) v1.toNatClampNeg)) (2 : Int32).toNatClampNeg ((rI (sRI S t0 (va_up (va_up (rI S t0) (0 : Int32).toNatClampNeg ((rI S x1) v1.toNatClampNeg)) (1 : Int32).toNatClampNeg ((rI (sRI S t0 (va_up (rI S t0) (0 : Int32).toNatClampNeg ((rI S x1) v1.toNatClampNeg))) x2) v1.toNatClampNeg))) x3) v1.toNatClampNeg))) x4) v1.toNatClampNeg)) (S' := sRI S t0 (va_up (va_up (va_up (va_up (va_up (rI S t0) (0 : Int32).toNatClampNeg ((rI S x1) v1.toNatClampNeg)) (1 : Int32).toNatClampNeg ((rI (sRI S t0 (va_up (rI S t0) (0 : Int32).toNatClampNeg ((rI S x1) v1.toNatClampNeg))) x2) v1.toNatClampNeg)) (2 : Int32).toNatClampNeg ((rI (sRI S t0 (va_up (va_up (rI S t0) (0 : Int32).toNatClampNeg ((rI S x1) v1.toNatClampNeg)) (1 : Int32).toNatClampNeg ((rI (sRI S t0 (va_up (rI S t0) (0 : Int32).toNatClampNeg ((rI S x1) v1.toNatClampNeg))) x2) v1.toNatClampNeg))) x3) v1.toNatClampNeg)) (3 : Int32).toNatClampNeg ((rI (sRI S t0 (va_up (va_up (va_up (rI S t0) (0 : Int32).toNatClampNeg ((rI S x1) v1.toNatClampNeg)) (1 : Int32).toNatClampNeg ((rI (sRI S t0 (va_up (rI S t0) (0 : Int32).toNatClampNeg ((rI S x1) v1.toNatClampNeg))) x2) v1.toNatClampNeg)) (2 : Int32).toNatClampNeg ((rI (sRI S t0 (va_up (va_up (rI S t0) (0 : Int32).toNatClampNeg ((rI S x1) v1.toNatClampNeg)) (1 : Int32).toNatClampNeg ((rI (sRI S t0 (va_up (rI S t0) (0 : Int32).toNatClampNeg ((rI S x1) v1.toNatClampNeg))) x2) v1.toNatClampNeg))) x3) v1.toNatClampNeg))) x4) v1.toNatClampNeg)) (4 : Int32).toNatClampNeg ((rI (sRI S t0 (va_up (va_up (va_up (va_up (rI S t0) (0 : Int32).toNatClampNeg ((rI S x1) v1.toNatClampNeg)) (1 : Int32).toNatClampNeg ((rI (sRI S t0 (va_up (rI S t0) (0 : Int32).toNatClampNeg ((rI S x1) v1.toNatClampNeg))) x2) v1.toNatClampNeg)) (2 : Int32).toNatClampNeg ((rI (sRI S t0 (va_up (va_up (rI S t0) (0 : Int32).toNatClampNeg ((rI S x1) v1.toNatClampNeg)) (1 : Int32).toNatClampNeg ((rI (sRI S t0 (va_up (rI S t0) (0 : Int32).toNatClampNeg ((rI S x1) v1.toNatClampNeg))) x2) v1.toNatClampNeg))) x3) v1.toNatClampNeg)) (3 : Int32).toNatClampNeg ((rI (sRI S t0 (va_up (va_up (va_up (rI S t0) (0 : Int32).toNatClampNeg ((rI S x1) v1.toNatClampNeg)) (1 : Int32).toNatClampNeg ((rI (sRI S t0 (va_up (rI S t0) (0 : Int32).toNatClampNeg ((rI S x1) v1.toNatClampNeg))) x2) v1.toNatClampNeg)) (2 : Int32).toNatClampNeg ((rI (sRI S t0 (va_up (va_up (rI S t0) (0 : Int32).toNatClampNeg ((rI S x1) v1.toNatClampNeg)) (1 : Int32).toNatClampNeg ((rI (sRI S t0 (va_up (rI S t0) (0 : Int32).toNatClampNeg ((rI S x1) v1.toNatClampNeg))) x2) v1.toNatClampNeg))) x3) v1.toNatClampNeg))) x4) v1.toNatClampNeg))) x5) v1.toNatClampNeg))) B dX13_parcelTold_48 h5 h22 (by simp [kd_sI, kd_sP, kd_sRI, kd_sRP, kd_nw, gI_sI, gI_sP, gI_sRI, gI_sRP, gI_nw, gP_sI, gP_sP, gP_sRI, gP_sRP, gP_nw, ln_sI, ln_sP, ln_sRI, ln_sRP, ln_nw, rI_sI, rI_sP, rI_sRI, rI_sRP, rI_nw, rP_sI, rP_sP, rP_sRI, rP_sRP, rP_nw, va_up_self]) (sRI_sRI ..) ?_
  refine k_dup B rfl dX13_parcelTold_49 ?_
  refine k_iconst (v := 5) B (by decide) dX13_parcelTold_50 ?_
  refine k_aload_n B 0 rfl rfl dX13_parcelTold_51 ?_
  refine k_getP (f := 919) (r := gP S 919 v0) B 14 23 rfl (by decide) rfl (by decide) rfl rfl (fun w h => in_of (uw_14 w h)) (in_of qfRX13_70) dX13_parcelTold_52 h1 rfl ?_
  rw [h23]; change K _ _ _ _ _ _ _ _ _ _ _ _ _ _ _ _ _ _ (.ref x6 :: _)
  refine k_getPN (f := 835) (r := gP S 835 x6) B 13 3 rfl (by decide) rfl (by decide) rfl rfl (fun w h => in_of (uw_13 w h)) "LastMileModel" (nzF_4 B.2.2.2.1.2.2.2.1) dX13_parcelTold_55 h24 rfl ?_
  rw [h25]; change K _ _ _ _ _ _ _ _ _ _ _ _ _ _ _ _ _ _ (.ref x7 :: _)
  refine k_iload_n B 1 rfl rfl dX13_parcelTold_58 ?_
  refine k_iald (v := (rI (sRI S t0 (va_up (va_up (va_up (va_up (va_up (rI S t0) (0 : Int32).toNatClampNeg ((rI S x1) v1.toNatClampNeg)) (1 : Int32).toNatClampNeg ((rI (sRI S t0 (va_up (rI S t0) (0 : Int32).toNatClampNeg ((rI S x1) v1.toNatClampNeg))) x2) v1.toNatClampNeg)) (2 : Int32).toNatClampNeg ((rI (sRI S t0 (va_up (va_up (rI S t0) (0 : Int32).toNatClampNeg ((rI S x1) v1.toNatClampNeg)) (1 : Int32).toNatClampNeg ((rI (sRI S t0 (va_up (rI S t0) (0 : Int32).toNatClampNeg ((rI S x1) v1.toNatClampNeg))) x2) v1.toNatClampNeg))) x3) v1.toNatClampNeg)) (3 : Int32).toNatClampNeg ((rI (sRI S t0 (va_up (va_up (va_up (rI S t0) (0 : Int32).toNatClampNeg ((rI S x1) v1.toNatClampNeg)) (1 : Int32).toNatClampNeg ((rI (sRI S t0 (va_up (rI S t0) (0 : Int32).toNatClampNeg ((rI S x1) v1.toNatClampNeg))) x2) v1.toNatClampNeg)) (2 : Int32).toNatClampNeg ((rI (sRI S t0 (va_up (va_up (rI S t0) (0 : Int32).toNatClampNeg ((rI S x1) v1.toNatClampNeg)) (1 : Int32).toNatClampNeg ((rI (sRI S t0 (va_up (rI S t0) (0 : Int32).toNatClampNeg ((rI S x1) v1.toNatClampNeg))) x2) v1.toNatClampNeg))) x3) v1.toNatClampNeg))) x4) v1.toNatClampNeg)) (4 : Int32).toNatClampNeg ((rI (sRI S t0 (va_up (va_up (va_up (va_up (rI S t0) (0 : Int32).toNatClampNeg ((rI S x1) v1.toNatClampNeg)) (1 : Int32).toNatClampNeg ((rI (sRI S t0 (va_up (rI S t0) (0 : Int32).toNatClampNeg ((rI S x1) v1.toNatClampNeg))) x2) v1.toNatClampNeg)) (2 : Int32).toNatClampNeg ((rI (sRI S t0 (va_up (va_up (rI S t0) (0 : Int32).toNatClampNeg ((rI S x1) v1.toNatClampNeg)) (1 : Int32).toNatClampNeg ((rI (sRI S t0 (va_up (rI S t0) (0 : Int32).toNatClampNeg ((rI S x1) v1.toNatClampNeg))) x2) v1.toNatClampNeg))) x3) v1.toNatClampNeg)) (3 : Int32).toNatClampNeg ((rI (sRI S t0 (va_up (va_up (va_up (rI S t0) (0 : Int32).toNatClampNeg ((rI S x1) v1.toNatClampNeg)) (1 : Int32).toNatClampNeg ((rI (sRI S t0 (va_up (rI S t0) (0 : Int32).toNatClampNeg ((rI S x1) v1.toNatClampNeg))) x2) v1.toNatClampNeg)) (2 : Int32).toNatClampNeg ((rI (sRI S t0 (va_up (va_up (rI S t0) (0 : Int32).toNatClampNeg ((rI S x1) v1.toNatClampNeg)) (1 : Int32).toNatClampNeg ((rI (sRI S t0 (va_up (rI S t0) (0 : Int32).toNatClampNeg ((rI S x1) v1.toNatClampNeg))) x2) v1.toNatClampNeg))) x3) v1.toNatClampNeg))) x4) v1.toNatClampNeg))) x5) v1.toNatClampNeg))) x7) v1.toNatClampNeg) B dX13_parcelTold_59 h26 h27 rfl ?_
  refine k_iast (g := va_up (va_up (va_up (va_up (va_up (rI S t0) (0 : Int32).toNatClampNeg ((rI S x1) v1.toNatClampNeg)) (1 : Int32).toNatClampNeg ((rI (sRI S t0 (va_up (rI S t0) (0 : Int32).toNatClampNeg ((rI S x1) v1.toNatClampNeg))) x2) v1.toNatClampNeg)) (2 : Int32).toNatClampNeg ((rI (sRI S t0 (va_up (va_up (rI S t0) (0 : Int32).toNatClampNeg ((rI S x1) v1.toNatClampNeg)) (1 : Int32).toNatClampNeg ((rI (sRI S t0 (va_up (rI S t0) (0 : Int32).toNatClampNeg ((rI S x1) v1.toNatClampNeg))) x2) v1.toNatClampNeg))) x3) v1.toNatClampNeg)) (3 : Int32).toNatClampNeg ((rI (sRI S t0 (va_up (va_up (va_up (rI S t0) (0 : Int32).toNatClampNeg ((rI S x1) v1.toNatClampNeg)) (1 : Int32).toNatClampNeg ((rI (sRI S t0 (va_up (rI S t0) (0 : Int32).toNatClampNeg ((rI S x1) v1.toNatClampNeg))) x2) v1.toNatClampNeg)) (2 : Int32).toNatClampNeg ((rI (sRI S t0 (va_up (va_up (rI S t0) (0 : Int32).toNatClampNeg ((rI S x1) v1.toNatClampNeg)) (1 : Int32).toNatClampNeg ((rI (sRI S t0 (va_up (rI S t0) (0 : Int32).toNatClampNeg ((rI S x1) v1.toNatClampNeg))) x2) v1.toNatClampNeg))) x3) v1.toNatClampNeg))) x4) v1.toNatClampNeg)) (4 : Int32).toNatClampNeg ((rI (sRI S t0 (va_up (va_up (va_up (va_up (rI S t0) (0 : Int32).toNatClampNeg ((rI S x1) v1.toNatClampNeg)) (1 : Int32).toNatClampNeg ((rI (sRI S t0 (va_up (rI S t0) (0 : Int32).toNatClampNeg ((rI S x1) v1.toNatClampNeg))) x2) v1.toNatClampNeg)) (2 : Int32).toNatClampNeg ((rI (sRI S t0 (va_up (va_up (rI S t0) (0 : Int32).toNatClampNeg ((rI S x1) v1.toNatClampNeg)) (1 : Int32).toNatClampNeg ((rI (sRI S t0 (va_up (rI S t0) (0 : Int32).toNatClampNeg ((rI S x1) v1.toNatClampNeg))) x2) v1.toNatClampNeg))) x3) v1.toNatClampNeg)) (3 : Int32).toNatClampNeg ((rI (sRI S t0 (va_up (va_up (va_up (rI S t0) (0 : Int32).toNatClampNeg ((rI S x1) v1.toNatClampNeg)) (1 : Int32).toNatClampNeg ((rI (sRI S t0 (va_up (rI S t0) (0 : Int32).toNatClampNeg ((rI S x1) v1.toNatClampNeg))) x2) v1.toNatClampNeg)) (2 : Int32).toNatClampNeg ((rI (sRI S t0 (va_up (va_up (rI S t0) (0 : Int32).toNatClampNeg ((rI S x1) v1.toNatClampNeg)) (1 : Int32).toNatClampNeg ((rI (sRI S t0 (va_up (rI S t0) (0 : Int32).toNatClampNeg ((rI S x1) v1.toNatClampNeg))) x2) v1.toNatClampNeg))) x3) v1.toNatClampNeg))) x4) v1.toNatClampNeg))) x5) v1.toNatClampNeg)) (S' := sRI S t0 (va_up (va_up (va_up (va_up (va_up (va_up (rI S t0) (0 : Int32).toNatClampNeg ((rI S x1) v1.toNatClampNeg)) (1 : Int32).toNatClampNeg ((rI (sRI S t0 (va_up (rI S t0) (0 : Int32).toNatClampNeg ((rI S x1) v1.toNatClampNeg))) x2) v1.toNatClampNeg)) (2 : Int32).toNatClampNeg ((rI (sRI S t0 (va_up (va_up (rI S t0) (0 : Int32).toNatClampNeg ((rI S x1) v1.toNatClampNeg)) (1 : Int32).toNatClampNeg ((rI (sRI S t0 (va_up (rI S t0) (0 : Int32).toNatClampNeg ((rI S x1) v1.toNatClampNeg))) x2) v1.toNatClampNeg))) x3) v1.toNatClampNeg)) (3 : Int32).toNatClampNeg ((rI (sRI S t0 (va_up (va_up (va_up (rI S t0) (0 : Int32).toNatClampNeg ((rI S x1) v1.toNatClampNeg)) (1 : Int32).toNatClampNeg ((rI (sRI S t0 (va_up (rI S t0) (0 : Int32).toNatClampNeg ((rI S x1) v1.toNatClampNeg))) x2) v1.toNatClampNeg)) (2 : Int32).toNatClampNeg ((rI (sRI S t0 (va_up (va_up (rI S t0) (0 : Int32).toNatClampNeg ((rI S x1) v1.toNatClampNeg)) (1 : Int32).toNatClampNeg ((rI (sRI S t0 (va_up (rI S t0) (0 : Int32).toNatClampNeg ((rI S x1) v1.toNatClampNeg))) x2) v1.toNatClampNeg))) x3) v1.toNatClampNeg))) x4) v1.toNatClampNeg)) (4 : Int32).toNatClampNeg ((rI (sRI S t0 (va_up (va_up (va_up (va_up (rI S t0) (0 : Int32).toNatClampNeg ((rI S x1) v1.toNatClampNeg)) (1 : Int32).toNatClampNeg ((rI (sRI S t0 (va_up (rI S t0) (0 : Int32).toNatClampNeg ((rI S x1) v1.toNatClampNeg))) x2) v1.toNatClampNeg)) (2 : Int32).toNatClampNeg ((rI (sRI S t0 (va_up (va_up (rI S t0) (0 : Int32).toNatClampNeg ((rI S x1) v1.toNatClampNeg)) (1 : Int32).toNatClampNeg ((rI (sRI S t0 (va_up (rI S t0) (0 : Int32).toNatClampNeg ((rI S x1) v1.toNatClampNeg))) x2) v1.toNatClampNeg))) x3) v1.toNatClampNeg)) (3 : Int32).toNatClampNeg ((rI (sRI S t0 (va_up (va_up (va_up (rI S t0) (0 : Int32).toNatClampNeg ((rI S x1) v1.toNatClampNeg)) (1 : Int32).toNatClampNeg ((rI (sRI S t0 (va_up (rI S t0) (0 : Int32).toNatClampNeg ((rI S x1) v1.toNatClampNeg))) x2) v1.toNatClampNeg)) (2 : Int32).toNatClampNeg ((rI (sRI S t0 (va_up (va_up (rI S t0) (0 : Int32).toNatClampNeg ((rI S x1) v1.toNatClampNeg)) (1 : Int32).toNatClampNeg ((rI (sRI S t0 (va_up (rI S t0) (0 : Int32).toNatClampNeg ((rI S x1) v1.toNatClampNeg))) x2) v1.toNatClampNeg))) x3) v1.toNatClampNeg))) x4) v1.toNatClampNeg))) x5) v1.toNatClampNeg)) (5 : Int32).toNatClampNeg ((rI (sRI S t0 (va_up (va_up (va_up (va_up (va_up (rI S t0) (0 : Int32).toNatClampNeg ((rI S x1) v1.toNatClampNeg)) (1 : Int32).toNatClampNeg ((rI (sRI S t0 (va_up (rI S t0) (0 : Int32).toNatClampNeg ((rI S x1) v1.toNatClampNeg))) x2) v1.toNatClampNeg)) (2 : Int32).toNatClampNeg ((rI (sRI S t0 (va_up (va_up (rI S t0) (0 : Int32).toNatClampNeg ((rI S x1) v1.toNatClampNeg)) (1 : Int32).toNatClampNeg ((rI (sRI S t0 (va_up (rI S t0) (0 : Int32).toNatClampNeg ((rI S x1) v1.toNatClampNeg))) x2) v1.toNatClampNeg))) x3) v1.toNatClampNeg)) (3 : Int32).toNatClampNeg ((rI (sRI S t0 (va_up (va_up (va_up (rI S t0) (0 : Int32).toNatClampNeg ((rI S x1) v1.toNatClampNeg)) (1 : Int32).toNatClampNeg ((rI (sRI S t0 (va_up (rI S t0) (0 : Int32).toNatClampNeg ((rI S x1) v1.toNatClampNeg))) x2) v1.toNatClampNeg)) (2 : Int32).toNatClampNeg ((rI (sRI S t0 (va_up (va_up (rI S t0) (0 : Int32).toNatClampNeg ((rI S x1) v1.toNatClampNeg)) (1 : Int32).toNatClampNeg ((rI (sRI S t0 (va_up (rI S t0) (0 : Int32).toNatClampNeg ((rI S x1) v1.toNatClampNeg))) x2) v1.toNatClampNeg))) x3) v1.toNatClampNeg))) x4) v1.toNatClampNeg)) (4 : Int32).toNatClampNeg ((rI (sRI S t0 (va_up (va_up (va_up (va_up (rI S t0) (0 : Int32).toNatClampNeg ((rI S x1) v1.toNatClampNeg)) (1 : Int32).toNatClampNeg ((rI (sRI S t0 (va_up (rI S t0) (0 : Int32).toNatClampNeg ((rI S x1) v1.toNatClampNeg))) x2) v1.toNatClampNeg)) (2 : Int32).toNatClampNeg ((rI (sRI S t0 (va_up (va_up (rI S t0) (0 : Int32).toNatClampNeg ((rI S x1) v1.toNatClampNeg)) (1 : Int32).toNatClampNeg ((rI (sRI S t0 (va_up (rI S t0) (0 : Int32).toNatClampNeg ((rI S x1) v1.toNatClampNeg))) x2) v1.toNatClampNeg))) x3) v1.toNatClampNeg)) (3 : Int32).toNatClampNeg ((rI (sRI S t0 (va_up (va_up (va_up (rI S t0) (0 : Int32).toNatClampNeg ((rI S x1) v1.toNatClampNeg)) (1 : Int32).toNatClampNeg ((rI (sRI S t0 (va_up (rI S t0) (0 : Int32).toNatClampNeg ((rI S x1) v1.toNatClampNeg))) x2) v1.toNatClampNeg)) (2 : Int32).toNatClampNeg ((rI (sRI S t0 (va_up (va_up (rI S t0) (0 : Int32).toNatClampNeg ((rI S x1) v1.toNatClampNeg)) (1 : Int32).toNatClampNeg ((rI (sRI S t0 (va_up (rI S t0) (0 : Int32).toNatClampNeg ((rI S x1) v1.toNatClampNeg))) x2) v1.toNatClampNeg))) x3) v1.toNatClampNeg))) x4) v1.toNatClampNeg))) x5) v1.toNatClampNeg))) x7) v1.toNatClampNeg))) B dX13_parcelTold_60 h5 h28 (by simp [kd_sI, kd_sP, kd_sRI, kd_sRP, kd_nw, gI_sI, gI_sP, gI_sRI, gI_sRP, gI_nw, gP_sI, gP_sP, gP_sRI, gP_sRP, gP_nw, ln_sI, ln_sP, ln_sRI, ln_sRP, ln_nw, rI_sI, rI_sP, rI_sRI, rI_sRP, rI_nw, rP_sI, rP_sP, rP_sRI, rP_sRP, rP_nw, va_up_self]) (sRI_sRI ..) ?_
  refine k_dup B rfl dX13_parcelTold_61 ?_
  refine k_bipush (v := 6) B (by decide) dX13_parcelTold_62 ?_
  refine k_aload_n B 0 rfl rfl dX13_parcelTold_64 ?_
  refine k_getP (f := 919) (r := gP S 919 v0) B 14 23 rfl (by decide) rfl (by decide) rfl rfl (fun w h => in_of (uw_14 w h)) (in_of qfRX13_70) dX13_parcelTold_65 h1 rfl ?_
  rw [h29]; change K _ _ _ _ _ _ _ _ _ _ _ _ _ _ _ _ _ _ (.ref x8 :: _)
  refine k_getPN (f := 834) (r := gP S 834 x8) B 13 2 rfl (by decide) rfl (by decide) rfl rfl (fun w h => in_of (uw_13 w h)) "LastMileModel" (nzF_3 B.2.2.2.1.2.2.2.1) dX13_parcelTold_68 h30 rfl ?_
  rw [h31]; change K _ _ _ _ _ _ _ _ _ _ _ _ _ _ _ _ _ _ (.ref x9 :: _)
  refine k_iload_n B 1 rfl rfl dX13_parcelTold_71 ?_
  refine k_iald (v := (rI (sRI S t0 (va_up (va_up (va_up (va_up (va_up (va_up (rI S t0) (0 : Int32).toNatClampNeg ((rI S x1) v1.toNatClampNeg)) (1 : Int32).toNatClampNeg ((rI (sRI S t0 (va_up (rI S t0) (0 : Int32).toNatClampNeg ((rI S x1) v1.toNatClampNeg))) x2) v1.toNatClampNeg)) (2 : Int32).toNatClampNeg ((rI (sRI S t0 (va_up (va_up (rI S t0) (0 : Int32).toNatClampNeg ((rI S x1) v1.toNatClampNeg)) (1 : Int32).toNatClampNeg ((rI (sRI S t0 (va_up (rI S t0) (0 : Int32).toNatClampNeg ((rI S x1) v1.toNatClampNeg))) x2) v1.toNatClampNeg))) x3) v1.toNatClampNeg)) (3 : Int32).toNatClampNeg ((rI (sRI S t0 (va_up (va_up (va_up (rI S t0) (0 : Int32).toNatClampNeg ((rI S x1) v1.toNatClampNeg)) (1 : Int32).toNatClampNeg ((rI (sRI S t0 (va_up (rI S t0) (0 : Int32).toNatClampNeg ((rI S x1) v1.toNatClampNeg))) x2) v1.toNatClampNeg)) (2 : Int32).toNatClampNeg ((rI (sRI S t0 (va_up (va_up (rI S t0) (0 : Int32).toNatClampNeg ((rI S x1) v1.toNatClampNeg)) (1 : Int32).toNatClampNeg ((rI (sRI S t0 (va_up (rI S t0) (0 : Int32).toNatClampNeg ((rI S x1) v1.toNatClampNeg))) x2) v1.toNatClampNeg))) x3) v1.toNatClampNeg))) x4) v1.toNatClampNeg)) (4 : Int32).toNatClampNeg ((rI (sRI S t0 (va_up (va_up (va_up (va_up (rI S t0) (0 : Int32).toNatClampNeg ((rI S x1) v1.toNatClampNeg)) (1 : Int32).toNatClampNeg ((rI (sRI S t0 (va_up (rI S t0) (0 : Int32).toNatClampNeg ((rI S x1) v1.toNatClampNeg))) x2) v1.toNatClampNeg)) (2 : Int32).toNatClampNeg ((rI (sRI S t0 (va_up (va_up (rI S t0) (0 : Int32).toNatClampNeg ((rI S x1) v1.toNatClampNeg)) (1 : Int32).toNatClampNeg ((rI (sRI S t0 (va_up (rI S t0) (0 : Int32).toNatClampNeg ((rI S x1) v1.toNatClampNeg))) x2) v1.toNatClampNeg))) x3) v1.toNatClampNeg)) (3 : Int32).toNatClampNeg ((rI (sRI S t0 (va_up (va_up (va_up (rI S t0) (0 : Int32).toNatClampNeg ((rI S x1) v1.toNatClampNeg)) (1 : Int32).toNatClampNeg ((rI (sRI S t0 (va_up (rI S t0) (0 : Int32).toNatClampNeg ((rI S x1) v1.toNatClampNeg))) x2) v1.toNatClampNeg)) (2 : Int32).toNatClampNeg ((rI (sRI S t0 (va_up (va_up (rI S t0) (0 : Int32).toNatClampNeg ((rI S x1) v1.toNatClampNeg)) (1 : Int32).toNatClampNeg ((rI (sRI S t0 (va_up (rI S t0) (0 : Int32).toNatClampNeg ((rI S x1) v1.toNatClampNeg))) x2) v1.toNatClampNeg))) x3) v1.toNatClampNeg))) x4) v1.toNatClampNeg))) x5) v1.toNatClampNeg)) (5 : Int32).toNatClampNeg ((rI (sRI S t0 (va_up (va_up (va_up (va_up (va_up (rI S t0) (0 : Int32).toNatClampNeg ((rI S x1) v1.toNatClampNeg)) (1 : Int32).toNatClampNeg ((rI (sRI S t0 (va_up (rI S t0) (0 : Int32).toNatClampNeg ((rI S x1) v1.toNatClampNeg))) x2) v1.toNatClampNeg)) (2 : Int32).toNatClampNeg ((rI (sRI S t0 (va_up (va_up (rI S t0) (0 : Int32).toNatClampNeg ((rI S x1) v1.toNatClampNeg)) (1 : Int32).toNatClampNeg ((rI (sRI S t0 (va_up (rI S t0) (0 : Int32).toNatClampNeg ((rI S x1) v1.toNatClampNeg))) x2) v1.toNatClampNeg))) x3) v1.toNatClampNeg)) (3 : Int32).toNatClampNeg ((rI (sRI S t0 (va_up (va_up (va_up (rI S t0) (0 : Int32).toNatClampNeg ((rI S x1) v1.toNatClampNeg)) (1 : Int32).toNatClampNeg ((rI (sRI S t0 (va_up (rI S t0) (0 : Int32).toNatClampNeg ((rI S x1) v1.toNatClampNeg))) x2) v1.toNatClampNeg)) (2 : Int32).toNatClampNeg ((rI (sRI S t0 (va_up (va_up (rI S t0) (0 : Int32).toNatClampNeg ((rI S x1) v1.toNatClampNeg)) (1 : Int32).toNatClampNeg ((rI (sRI S t0 (va_up (rI S t0) (0 : Int32).toNatClampNeg ((rI S x1) v1.toNatClampNeg))) x2) v1.toNatClampNeg))) x3) v1.toNatClampNeg))) x4) v1.toNatClampNeg)) (4 : Int32).toNatClampNeg ((rI (sRI S t0 (va_up (va_up (va_up (va_up (rI S t0) (0 : Int32).toNatClampNeg ((rI S x1) v1.toNatClampNeg)) (1 : Int32).toNatClampNeg ((rI (sRI S t0 (va_up (rI S t0) (0 : Int32).toNatClampNeg ((rI S x1) v1.toNatClampNeg))) x2) v1.toNatClampNeg)) (2 : Int32).toNatClampNeg ((rI (sRI S t0 (va_up (va_up (rI S t0) (0 : Int32).toNatClampNeg ((rI S x1) v1.toNatClampNeg)) (1 : Int32).toNatClampNeg ((rI (sRI S t0 (va_up (rI S t0) (0 : Int32).toNatClampNeg ((rI S x1) v1.toNatClampNeg))) x2) v1.toNatClampNeg))) x3) v1.toNatClampNeg)) (3 : Int32).toNatClampNeg ((rI (sRI S t0 (va_up (va_up (va_up (rI S t0) (0 : Int32).toNatClampNeg ((rI S x1) v1.toNatClampNeg)) (1 : Int32).toNatClampNeg ((rI (sRI S t0 (va_up (rI S t0) (0 : Int32).toNatClampNeg ((rI S x1) v1.toNatClampNeg))) x2) v1.toNatClampNeg)) (2 : Int32).toNatClampNeg ((rI (sRI S t0 (va_up (va_up (rI S t0) (0 : Int32).toNatClampNeg ((rI S x1) v1.toNatClampNeg)) (1 : Int32).toNatClampNeg ((rI (sRI S t0 (va_up (rI S t0) (0 : Int32).toNatClampNeg ((rI S x1) v1.toNatClampNeg))) x2) v1.toNatClampNeg))) x3) v1.toNatClampNeg))) x4) v1.toNatClampNeg))) x5) v1.toNatClampNeg))) x7) v1.toNatClampNeg))) x9) v1.toNatClampNeg) B dX13_parcelTold_72 h32 h33 rfl ?_
  refine k_iast (g := va_up (va_up (va_up (va_up (va_up (va_up (rI S t0) (0 : Int32).toNatClampNeg ((rI S x1) v1.toNatClampNeg)) (1 : Int32).toNatClampNeg ((rI (sRI S t0 (va_up (rI S t0) (0 : Int32).toNatClampNeg ((rI S x1) v1.toNatClampNeg))) x2) v1.toNatClampNeg)) (2 : Int32).toNatClampNeg ((rI (sRI S t0 (va_up (va_up (rI S t0) (0 : Int32).toNatClampNeg ((rI S x1) v1.toNatClampNeg)) (1 : Int32).toNatClampNeg ((rI (sRI S t0 (va_up (rI S t0) (0 : Int32).toNatClampNeg ((rI S x1) v1.toNatClampNeg))) x2) v1.toNatClampNeg))) x3) v1.toNatClampNeg)) (3 : Int32).toNatClampNeg ((rI (sRI S t0 (va_up (va_up (va_up (rI S t0) (0 : Int32).toNatClampNeg ((rI S x1) v1.toNatClampNeg)) (1 : Int32).toNatClampNeg ((rI (sRI S t0 (va_up (rI S t0) (0 : Int32).toNatClampNeg ((rI S x1) v1.toNatClampNeg))) x2) v1.toNatClampNeg)) (2 : Int32).toNatClampNeg ((rI (sRI S t0 (va_up (va_up (rI S t0) (0 : Int32).toNatClampNeg ((rI S x1) v1.toNatClampNeg)) (1 : Int32).toNatClampNeg ((rI (sRI S t0 (va_up (rI S t0) (0 : Int32).toNatClampNeg ((rI S x1) v1.toNatClampNeg))) x2) v1.toNatClampNeg))) x3) v1.toNatClampNeg))) x4) v1.toNatClampNeg)) (4 : Int32).toNatClampNeg ((rI (sRI S t0 (va_up (va_up (va_up (va_up (rI S t0) (0 : Int32).toNatClampNeg ((rI S x1) v1.toNatClampNeg)) (1 : Int32).toNatClampNeg ((rI (sRI S t0 (va_up (rI S t0) (0 : Int32).toNatClampNeg ((rI S x1) v1.toNatClampNeg))) x2) v1.toNatClampNeg)) (2 : Int32).toNatClampNeg ((rI (sRI S t0 (va_up (va_up (rI S t0) (0 : Int32).toNatClampNeg ((rI S x1) v1.toNatClampNeg)) (1 : Int32).toNatClampNeg ((rI (sRI S t0 (va_up (rI S t0) (0 : Int32).toNatClampNeg ((rI S x1) v1.toNatClampNeg))) x2) v1.toNatClampNeg))) x3) v1.toNatClampNeg)) (3 : Int32).toNatClampNeg ((rI (sRI S t0 (va_up (va_up (va_up (rI S t0) (0 : Int32).toNatClampNeg ((rI S x1) v1.toNatClampNeg)) (1 : Int32).toNatClampNeg ((rI (sRI S t0 (va_up (rI S t0) (0 : Int32).toNatClampNeg ((rI S x1) v1.toNatClampNeg))) x2) v1.toNatClampNeg)) (2 : Int32).toNatClampNeg ((rI (sRI S t0 (va_up (va_up (rI S t0) (0 : Int32).toNatClampNeg ((rI S x1) v1.toNatClampNeg)) (1 : Int32).toNatClampNeg ((rI (sRI S t0 (va_up (rI S t0) (0 : Int32).toNatClampNeg ((rI S x1) v1.toNatClampNeg))) x2) v1.toNatClampNeg))) x3) v1.toNatClampNeg))) x4) v1.toNatClampNeg))) x5) v1.toNatClampNeg)) (5 : Int32).toNatClampNeg ((rI (sRI S t0 (va_up (va_up (va_up (va_up (va_up (rI S t0) (0 : Int32).toNatClampNeg ((rI S x1) v1.toNatClampNeg)) (1 : Int32).toNatClampNeg ((rI (sRI S t0 (va_up (rI S t0) (0 : Int32).toNatClampNeg ((rI S x1) v1.toNatClampNeg))) x2) v1.toNatClampNeg)) (2 : Int32).toNatClampNeg ((rI (sRI S t0 (va_up (va_up (rI S t0) (0 : Int32).toNatClampNeg ((rI S x1) v1.toNatClampNeg)) (1 : Int32).toNatClampNeg ((rI (sRI S t0 (va_up (rI S t0) (0 : Int32).toNatClampNeg ((rI S x1) v1.toNatClampNeg))) x2) v1.toNatClampNeg))) x3) v1.toNatClampNeg)) (3 : Int32).toNatClampNeg ((rI (sRI S t0 (va_up (va_up (va_up (rI S t0) (0 : Int32).toNatClampNeg ((rI S x1) v1.toNatClampNeg)) (1 : Int32).toNatClampNeg ((rI (sRI S t0 (va_up (rI S t0) (0 : Int32).toNatClampNeg ((rI S x1) v1.toNatClampNeg))) x2) v1.toNatClampNeg)) (2 : Int32).toNatClampNeg ((rI (sRI S t0 (va_up (va_up (rI S t0) (0 : Int32).toNatClampNeg ((rI S x1) v1.toNatClampNeg)) (1 : Int32).toNatClampNeg ((rI (sRI S t0 (va_up (rI S t0) (0 : Int32).toNatClampNeg ((rI S x1) v1.toNatClampNeg))) x2) v1.toNatClampNeg))) x3) v1.toNatClampNeg))) x4) v1.toNatClampNeg)) (4 : Int32).toNatClampNeg ((rI (sRI S t0 (va_up (va_up (va_up (va_up (rI S t0) (0 : Int32).toNatClampNeg ((rI S x1) v1.toNatClampNeg)) (1 : Int32).toNatClampNeg ((rI (sRI S t0 (va_up (rI S t0) (0 : Int32).toNatClampNeg ((rI S x1) v1.toNatClampNeg))) x2) v1.toNatClampNeg)) (2 : Int32).toNatClampNeg ((rI (sRI S t0 (va_up (va_up (rI S t0) (0 : Int32).toNatClampNeg ((rI S x1) v1.toNatClampNeg)) (1 : Int32).toNatClampNeg ((rI (sRI S t0 (va_up (rI S t0) (0 : Int32).toNatClampNeg ((rI S x1) v1.toNatClampNeg))) x2) v1.toNatClampNeg))) x3) v1.toNatClampNeg)) (3 : Int32).toNatClampNeg ((rI (sRI S t0 (va_up (va_up (va_up (rI S t0) (0 : Int32).toNatClampNeg ((rI S x1) v1.toNatClampNeg)) (1 : Int32).toNatClampNeg ((rI (sRI S t0 (va_up (rI S t0) (0 : Int32).toNatClampNeg ((rI S x1) v1.toNatClampNeg))) x2) v1.toNatClampNeg)) (2 : Int32).toNatClampNeg ((rI (sRI S t0 (va_up (va_up (rI S t0) (0 : Int32).toNatClampNeg ((rI S x1) v1.toNatClampNeg)) (1 : Int32).toNatClampNeg ((rI (sRI S t0 (va_up (rI S t0) (0 : Int32).toNatClampNeg ((rI S x1) v1.toNatClampNeg))) x2) v1.toNatClampNeg))) x3) v1.toNatClampNeg))) x4) v1.toNatClampNeg))) x5) v1.toNatClampNeg))) x7) v1.toNatClampNeg)) (S' := sRI S t0 (va_up (va_up (va_up (va_up (va_up (va_up (va_up (rI S t0) (0 : Int32).toNatClampNeg ((rI S x1) v1.toNatClampNeg)) (1 : Int32).toNatClampNeg ((rI (sRI S t0 (va_up (rI S t0) (0 : Int32).toNatClampNeg ((rI S x1) v1.toNatClampNeg))) x2) v1.toNatClampNeg)) (2 : Int32).toNatClampNeg ((rI (sRI S t0 (va_up (va_up (rI S t0) (0 : Int32).toNatClampNeg ((rI S x1) v1.toNatClampNeg)) (1 : Int32).toNatClampNeg ((rI (sRI S t0 (va_up (rI S t0) (0 : Int32).toNatClampNeg ((rI S x1) v1.toNatClampNeg))) x2) v1.toNatClampNeg))) x3) v1.toNatClampNeg)) (3 : Int32).toNatClampNeg ((rI (sRI S t0 (va_up (va_up (va_up (rI S t0) (0 : Int32).toNatClampNeg ((rI S x1) v1.toNatClampNeg)) (1 : Int32).toNatClampNeg ((rI (sRI S t0 (va_up (rI S t0) (0 : Int32).toNatClampNeg ((rI S x1) v1.toNatClampNeg))) x2) v1.toNatClampNeg)) (2 : Int32).toNatClampNeg ((rI (sRI S t0 (va_up (va_up (rI S t0) (0 : Int32).toNatClampNeg ((rI S x1) v1.toNatClampNeg)) (1 : Int32).toNatClampNeg ((rI (sRI S t0 (va_up (rI S t0) (0 : Int32).toNatClampNeg ((rI S x1) v1.toNatClampNeg))) x2) v1.toNatClampNeg))) x3) v1.toNatClampNeg))) x4) v1.toNatClampNeg)) (4 : Int32).toNatClampNeg ((rI (sRI S t0 (va_up (va_up (va_up (va_up (rI S t0) (0 : Int32).toNatClampNeg ((rI S x1) v1.toNatClampNeg)) (1 : Int32).toNatClampNeg ((rI (sRI S t0 (va_up (rI S t0) (0 : Int32).toNatClampNeg ((rI S x1) v1.toNatClampNeg))) x2) v1.toNatClampNeg)) (2 : Int32).toNatClampNeg ((rI (sRI S t0 (va_up (va_up (rI S t0) (0 : Int32).toNatClampNeg ((rI S x1) v1.toNatClampNeg)) (1 : Int32).toNatClampNeg ((rI (sRI S t0 (va_up (rI S t0) (0 : Int32).toNatClampNeg ((rI S x1) v1.toNatClampNeg))) x2) v1.toNatClampNeg))) x3) v1.toNatClampNeg)) (3 : Int32).toNatClampNeg ((rI (sRI S t0 (va_up (va_up (va_up (rI S t0) (0 : Int32).toNatClampNeg ((rI S x1) v1.toNatClampNeg)) (1 : Int32).toNatClampNeg ((rI (sRI S t0 (va_up (rI S t0) (0 : Int32).toNatClampNeg ((rI S x1) v1.toNatClampNeg))) x2) v1.toNatClampNeg)) (2 : Int32).toNatClampNeg ((rI (sRI S t0 (va_up (va_up (rI S t0) (0 : Int32).toNatClampNeg ((rI S x1) v1.toNatClampNeg)) (1 : Int32).toNatClampNeg ((rI (sRI S t0 (va_up (rI S t0) (0 : Int32).toNatClampNeg ((rI S x1) v1.toNatClampNeg))) x2) v1.toNatClampNeg))) x3) v1.toNatClampNeg))) x4) v1.toNatClampNeg))) x5) v1.toNatClampNeg)) (5 : Int32).toNatClampNeg ((rI (sRI S t0 (va_up (va_up (va_up (va_up (va_up (rI S t0) (0 : Int32).toNatClampNeg ((rI S x1) v1.toNatClampNeg)) (1 : Int32).toNatClampNeg ((rI (sRI S t0 (va_up (rI S t0) (0 : Int32).toNatClampNeg ((rI S x1) v1.toNatClampNeg))) x2) v1.toNatClampNeg)) (2 : Int32).toNatClampNeg ((rI (sRI S t0 (va_up (va_up (rI S t0) (0 : Int32).toNatClampNeg ((rI S x1) v1.toNatClampNeg)) (1 : Int32).toNatClampNeg ((rI (sRI S t0 (va_up (rI S t0) (0 : Int32).toNatClampNeg ((rI S x1) v1.toNatClampNeg))) x2) v1.toNatClampNeg))) x3) v1.toNatClampNeg)) (3 : Int32).toNatClampNeg ((rI (sRI S t0 (va_up (va_up (va_up (rI S t0) (0 : Int32).toNatClampNeg ((rI S x1) v1.toNatClampNeg)) (1 : Int32).toNatClampNeg ((rI (sRI S t0 (va_up (rI S t0) (0 : Int32).toNatClampNeg ((rI S x1) v1.toNatClampNeg))) x2) v1.toNatClampNeg)) (2 : Int32).toNatClampNeg ((rI (sRI S t0 (va_up (va_up (rI S t0) (0 : Int32).toNatClampNeg ((rI S x1) v1.toNatClampNeg)) (1 : Int32).toNatClampNeg ((rI (sRI S t0 (va_up (rI S t0) (0 : Int32).toNatClampNeg ((rI S x1) v1.toNatClampNeg))) x2) v1.toNatClampNeg))) x3) v1.toNatClampNeg))) x4) v1.toNatClampNeg)) (4 : Int32).toNatClampNeg ((rI (sRI S t0 (va_up (va_up (va_up (va_up (rI S t0) (0 : Int32).toNatClampNeg ((rI S x1) v1.toNatClampNeg)) (1 : Int32).toNatClampNeg ((rI (sRI S t0 (va_up (rI S t0) (0 : Int32).toNatClampNeg ((rI S x1) v1.toNatClampNeg))) x2) v1.toNatClampNeg)) (2 : Int32).toNatClampNeg ((rI (sRI S t0 (va_up (va_up (rI S t0) (0 : Int32).toNatClampNeg ((rI S x1) v1.toNatClampNeg)) (1 : Int32).toNatClampNeg ((rI (sRI S t0 (va_up (rI S t0) (0 : Int32).toNatClampNeg ((rI S x1) v1.toNatClampNeg))) x2) v1.toNatClampNeg))) x3) v1.toNatClampNeg)) (3 : Int32).toNatClampNeg ((rI (sRI S t0 (va_up (va_up (va_up (rI S t0) (0 : Int32).toNatClampNeg ((rI S x1) v1.toNatClampNeg)) (1 : Int32).toNatClampNeg ((rI (sRI S t0 (va_up (rI S t0) (0 : Int32).toNatClampNeg ((rI S x1) v1.toNatClampNeg))) x2) v1.toNatClampNeg)) (2 : Int32).toNatClampNeg ((rI (sRI S t0 (va_up (va_up (rI S t0) (0 : Int32).toNatClampNeg ((rI S x1) v1.toNatClampNeg)) (1 : Int32).toNatClampNeg ((rI (sRI S t0 (va_up (rI S t0) (0 : Int32).toNatClampNeg ((rI S x1) v1.toNatClampNeg))) x2) v1.toNatClampNeg))) x3) v1.toNatClampNeg))) x4) v1.toNatClampNeg))) x5) v1.toNatClampNeg))) x7) v1.toNatClampNeg)) (6 : Int32).toNatClampNeg ((rI (sRI S t0 (va_up (va_up (va_up (va_up (va_up (va_up (rI S t0) (0 : Int32).toNatClampNeg ((rI S x1) v1.toNatClampNeg)) (1 : Int32).toNatClampNeg ((rI (sRI S t0 (va_up (rI S t0) (0 : Int32).toNatClampNeg ((rI S x1) v1.toNatClampNeg))) x2) v1.toNatClampNeg)) (2 : Int32).toNatClampNeg ((rI (sRI S t0 (va_up (va_up (rI S t0) (0 : Int32).toNatClampNeg ((rI S x1) v1.toNatClampNeg)) (1 : Int32).toNatClampNeg ((rI (sRI S t0 (va_up (rI S t0) (0 : Int32).toNatClampNeg ((rI S x1) v1.toNatClampNeg))) x2) v1.toNatClampNeg))) x3) v1.toNatClampNeg)) (3 : Int32).toNatClampNeg ((rI (sRI S t0 (va_up (va_up (va_up (rI S t0) (0 : Int32).toNatClampNeg ((rI S x1) v1.toNatClampNeg)) (1 : Int32).toNatClampNeg ((rI (sRI S t0 (va_up (rI S t0) (0 : Int32).toNatClampNeg ((rI S x1) v1.toNatClampNeg))) x2) v1.toNatClampNeg)) (2 : Int32).toNatClampNeg ((rI (sRI S t0 (va_up (va_up (rI S t0) (0 : Int32).toNatClampNeg ((rI S x1) v1.toNatClampNeg)) (1 : Int32).toNatClampNeg ((rI (sRI S t0 (va_up (rI S t0) (0 : Int32).toNatClampNeg ((rI S x1) v1.toNatClampNeg))) x2) v1.toNatClampNeg))) x3) v1.toNatClampNeg))) x4) v1.toNatClampNeg)) (4 : Int32).toNatClampNeg ((rI (sRI S t0 (va_up (va_up (va_up (va_up (rI S t0) (0 : Int32).toNatClampNeg ((rI S x1) v1.toNatClampNeg)) (1 : Int32).toNatClampNeg ((rI (sRI S t0 (va_up (rI S t0) (0 : Int32).toNatClampNeg ((rI S x1) v1.toNatClampNeg))) x2) v1.toNatClampNeg)) (2 : Int32).toNatClampNeg ((rI (sRI S t0 (va_up (va_up (rI S t0) (0 : Int32).toNatClampNeg ((rI S x1) v1.toNatClampNeg)) (1 : Int32).toNatClampNeg ((rI (sRI S t0 (va_up (rI S t0) (0 : Int32).toNatClampNeg ((rI S x1) v1.toNatClampNeg))) x2) v1.toNatClampNeg))) x3) v1.toNatClampNeg)) (3 : Int32).toNatClampNeg ((rI (sRI S t0 (va_up (va_up (va_up (rI S t0) (0 : Int32).toNatClampNeg ((rI S x1) v1.toNatClampNeg)) (1 : Int32).toNatClampNeg ((rI (sRI S t0 (va_up (rI S t0) (0 : Int32).toNatClampNeg ((rI S x1) v1.toNatClampNeg))) x2) v1.toNatClampNeg)) (2 : Int32).toNatClampNeg ((rI (sRI S t0 (va_up (va_up (rI S t0) (0 : Int32).toNatClampNeg ((rI S x1) v1.toNatClampNeg)) (1 : Int32).toNatClampNeg ((rI (sRI S t0 (va_up (rI S t0) (0 : Int32).toNatClampNeg ((rI S x1) v1.toNatClampNeg))) x2) v1.toNatClampNeg))) x3) v1.toNatClampNeg))) x4) v1.toNatClampNeg))) x5) v1.toNatClampNeg)) (5 : Int32).toNatClampNeg ((rI (sRI S t0 (va_up (va_up (va_up (va_up (va_up (rI S t0) (0 : Int32).toNatClampNeg ((rI S x1) v1.toNatClampNeg)) (1 : Int32).toNatClampNeg ((rI (sRI S t0 (va_up (rI S t0) (0 : Int32).toNatClampNeg ((rI S x1) v1.toNatClampNeg))) x2) v1.toNatClampNeg)) (2 : Int32).toNatClampNeg ((rI (sRI S t0 (va_up (va_up (rI S t0) (0 : Int32).toNatClampNeg ((rI S x1) v1.toNatClampNeg)) (1 : Int32).toNatClampNeg ((rI (sRI S t0 (va_up (rI S t0) (0 : Int32).toNatClampNeg ((rI S x1) v1.toNatClampNeg))) x2) v1.toNatClampNeg))) x3) v1.toNatClampNeg)) (3 : Int32).toNatClampNeg ((rI (sRI S t0 (va_up (va_up (va_up (rI S t0) (0 : Int32).toNatClampNeg ((rI S x1) v1.toNatClampNeg)) (1 : Int32).toNatClampNeg ((rI (sRI S t0 (va_up (rI S t0) (0 : Int32).toNatClampNeg ((rI S x1) v1.toNatClampNeg))) x2) v1.toNatClampNeg)) (2 : Int32).toNatClampNeg ((rI (sRI S t0 (va_up (va_up (rI S t0) (0 : Int32).toNatClampNeg ((rI S x1) v1.toNatClampNeg)) (1 : Int32).toNatClampNeg ((rI (sRI S t0 (va_up (rI S t0) (0 : Int32).toNatClampNeg ((rI S x1) v1.toNatClampNeg))) x2) v1.toNatClampNeg))) x3) v1.toNatClampNeg))) x4) v1.toNatClampNeg)) (4 : Int32).toNatClampNeg ((rI (sRI S t0 (va_up (va_up (va_up (va_up (rI S t0) (0 : Int32).toNatClampNeg ((rI S x1) v1.toNatClampNeg)) (1 : Int32).toNatClampNeg ((rI (sRI S t0 (va_up (rI S t0) (0 : Int32).toNatClampNeg ((rI S x1) v1.toNatClampNeg))) x2) v1.toNatClampNeg)) (2 : Int32).toNatClampNeg ((rI (sRI S t0 (va_up (va_up (rI S t0) (0 : Int32).toNatClampNeg ((rI S x1) v1.toNatClampNeg)) (1 : Int32).toNatClampNeg ((rI (sRI S t0 (va_up (rI S t0) (0 : Int32).toNatClampNeg ((rI S x1) v1.toNatClampNeg))) x2) v1.toNatClampNeg))) x3) v1.toNatClampNeg)) (3 : Int32).toNatClampNeg ((rI (sRI S t0 (va_up (va_up (va_up (rI S t0) (0 : Int32).toNatClampNeg ((rI S x1) v1.toNatClampNeg)) (1 : Int32).toNatClampNeg ((rI (sRI S t0 (va_up (rI S t0) (0 : Int32).toNatClampNeg ((rI S x1) v1.toNatClampNeg))) x2) v1.toNatClampNeg)) (2 : Int32).toNatClampNeg ((rI (sRI S t0 (va_up (va_up (rI S t0) (0 : Int32).toNatClampNeg ((rI S x1) v1.toNatClampNeg)) (1 : Int32).toNatClampNeg ((rI (sRI S t0 (va_up (rI S t0) (0 : Int32).toNatClampNeg ((rI S x1) v1.toNatClampNeg))) x2) v1.toNatClampNeg))) x3) v1.toNatClampNeg))) x4) v1.toNatClampNeg))) x5) v1.toNatClampNeg))) x7) v1.toNatClampNeg))) x9) v1.toNatClampNeg))) B dX13_parcelTold_73 h5 h34 (by simp [kd_sI, kd_sP, kd_sRI, kd_sRP, kd_nw, gI_sI, gI_sP, gI_sRI, gI_sRP, gI_nw, gP_sI, gP_sP, gP_sRI, gP_sRP, gP_nw, ln_sI, ln_sP, ln_sRI, ln_sRP, ln_nw, rI_sI, rI_sP, rI_sRI, rI_sRP, rI_nw, rP_sI, rP_sP, rP_sRI, rP_sRP, rP_nw, va_up_self]) (sRI_sRI ..) ?_
  refine k_dup B rfl dX13_parcelTold_74 ?_
  refine k_bipush (v := 7) B (by decide) dX13_parcelTold_75 ?_
  refine k_aload_n B 0 rfl rfl dX13_parcelTold_77 ?_
  refine k_getP (f := 919) (r := gP S 919 v0) B 14 23 rfl (by decide) rfl (by decide) rfl rfl (fun w h => in_of (uw_14 w h)) (in_of qfRX13_70) dX13_parcelTold_78 h1 rfl ?_
  rw [h35]; change K _ _ _ _ _ _ _ _ _ _ _ _ _ _ _ _ _ _ (.ref x10 :: _)
  refine k_iload_n B 1 rfl rfl dX13_parcelTold_81 ?_
  refine callV_I (st := [.int 7, .ref t0, .ref t0]) B [.int v1] (hc) (cwV 1 B.1.2.2.2.2 (gV qlRX13_160 qiX12_vanOf qeX12_vanOf qzRX12 qcX12_vanOf) rfl rfl rfl (by decide +kernel) ⟨Nat.le_of_ble_eq_true rfl, Nat.le_of_ble_eq_true rfl⟩) rfl rfl (by decide) h38 (Nat.le_of_ble_eq_true rfl) rfl dX13_parcelTold_82 ⟨h36, h37⟩ (fun r S' hp => ?_)
  exact kk r S' hp
theorem bX13_parcelTold_85 (B : Bd p s m args meth c cX13_parcelTold 4 (wsOf yX13_parcelTold cX13_parcelTold 4 (some .int)) RX13 w (some .int) "parcelTold") {v0 : Nat} {v1 : Int32} {v2 : Int32} {t0 : Nat} {t1 : Nat} {t2 : Int32} {t3 : Int32} {x1 : Nat} {x2 : Nat} {k n : Nat} {Q : State → Prop} (h1 : kd S t1 = 21) (h2 : vp_in t2 (ln S t1)) (h3 : kd S v0 = 15) (h4 : gP S 919 v0 = some x1) (h5 : kd S x1 = 14) (h6 : gP S 836 x1 = some x2) (h7 : kd S x2 = 21) (h8 : vp_in v1 (ln S x2)) (h9 : kd S t0 = 21) (h10 : vp_in 8 (ln S t0)) (kk : K p l e rX13_parcelTold s m args below meth c 4 w k n Q (sRI (sRI S t1 (va_up (rI S t1) t2.toNatClampNeg t3)) t0 (va_up (rI (sRI S t1 (va_up (rI S t1) t2.toNatClampNeg t3)) t0) (8 : Int32).toNatClampNeg ((rI (sRI S t1 (va_up (rI S t1) t2.toNatClampNeg t3)) x2) v1.toNatClampNeg))) 99 [(2, .int v2)] [.ref t0]) : K p l e rX13_parcelTold s m args below meth c 4 w k n Q S 85 [(0, .ref v0), (1, .int v1), (2, .int v2)] [.int t3, .int t2, .ref t1, .ref t0] := by
  refine k_iast (g := rI S t1) (S' := sRI S t1 (va_up (rI S t1) t2.toNatClampNeg t3)) B dX13_parcelTold_85 h1 h2 rfl rfl ?_
  refine k_dup B rfl dX13_parcelTold_86 ?_
  refine k_bipush (v := 8) B (by decide) dX13_parcelTold_87 ?_
  refine k_aload_n B 0 rfl rfl dX13_parcelTold_89 ?_
  refine k_getP (f := 919) (r := gP S 919 v0) B 14 23 rfl (by decide) rfl (by decide) rfl rfl (fun w h => in_of (uw_14 w h)) (in_of qfRX13_70) dX13_parcelTold_90 h3 rfl ?_
  rw [h4]; change K _ _ _ _ _ _ _ _ _ _ _ _ _ _ _ _ _ _ (.ref x1 :: _)
  refine k_getPN (f := 836) (r := gP S 836 x1) B 13 4 rfl (by decide) rfl (by decide) rfl rfl (fun w h => in_of (uw_13 w h)) "LastMileModel" (nzF_2 B.2.2.2.1.2.2.2.1) dX13_parcelTold_93 h5 rfl ?_
  rw [h6]; change K _ _ _ _ _ _ _ _ _ _ _ _ _ _ _ _ _ _ (.ref x2 :: _)
  refine k_iload_n B 1 rfl rfl dX13_parcelTold_96 ?_
  refine k_iald (v := (rI (sRI S t1 (va_up (rI S t1) t2.toNatClampNeg t3)) x2) v1.toNatClampNeg) B dX13_parcelTold_97 h7 h8 rfl ?_
  refine k_iast (g := rI (sRI S t1 (va_up (rI S t1) t2.toNatClampNeg t3)) t0) (S' := sRI (sRI S t1 (va_up (rI S t1) t2.toNatClampNeg t3)) t0 (va_up (rI (sRI S t1 (va_up (rI S t1) t2.toNatClampNeg t3)) t0) (8 : Int32).toNatClampNeg ((rI (sRI S t1 (va_up (rI S t1) t2.toNatClampNeg t3)) x2) v1.toNatClampNeg))) B dX13_parcelTold_98 h9 h10 rfl rfl ?_
  refine k_sub [2] rfl ?_
  exact kk
theorem bX13_parcelTold_99 (B : Bd p s m args meth c cX13_parcelTold 4 (wsOf yX13_parcelTold cX13_parcelTold 4 (some .int)) RX13 w (some .int) "parcelTold") {v2 : Int32} {t0 : Nat} {post : Int32 → St → Prop} {k n : Nat} (h1 : kd S t0 = 21) (h2 : vp_in v2 (ln S t0)) (hq : post ((rI S t0) v2.toNatClampNeg) S) : K p l e rX13_parcelTold s m args below meth c 4 w k n (MQ below (va_Qi post (fun S' t => Hd w S' t.heap) (wA w)) args s k n (wA w)) S 99 [(2, .int v2)] [.ref t0] := by
  refine k_astore_n (lst' := [(3, .ref t0), (2, .int v2)]) B rfl (by decide) rfl dX13_parcelTold_99 ?_
  refine k_aload_n B 0 rfl rfl dX13_parcelTold_100 ?_
  refine k_iload_n B 1 rfl rfl dX13_parcelTold_101 ?_
  refine k_iald (v := (rI S t0) v2.toNatClampNeg) B dX13_parcelTold_102 h1 h2 rfl ?_
  exact ret_I B rfl dX13_parcelTold_103 (hq)
theorem bX13_parcel_0 (B : Bd p s m args meth c cX13_parcel 3 (wsOf yX13_parcel cX13_parcel 3 (some .int)) RX13 w (some .int) "parcel") {v0 : Nat} {v1 : Int32} {v2 : Int32} {post : Int32 → St → Prop} {k n : Nat} {Q : State → Prop} (h1 : kd S v0 = 15) (hc : ConI l yX13_isParcel (wsOf yX13_isParcel cX13_isParcel 2 (some .boolean)) rX13_isParcel w (sI S 896 v0 0) [.ref v0, .int v1] post) (h2 : k + 0 ≤ rX13_parcel.cells) (h3 : n + 0 ≤ rX13_parcel.slots) (kk : ∀ (r : Int32) (S' : St), post r S' → K p l e rX13_parcel s m args below meth c 3 w k n Q S' 10 [(0, .ref v0), (1, .int v1), (2, .int v2)] [.int r]) : K p l e rX13_parcel s m args below meth c 3 w k n Q S 0 [(0, .ref v0), (1, .int v1), (2, .int v2)] [] := by
  refine k_aload_n B 0 rfl rfl dX13_parcel_0 ?_
  refine k_iconst (v := 0) B (by decide) dX13_parcel_1 ?_
  refine k_putI (f := 896) B 14 0 rfl (by decide) rfl (by decide) rfl rfl (fun w h => in_of (uw_14 w h)) (in_of qfRX13_95) tyX13 tyX13_ok nmX13 rfl (tyX13_ok 0 (by decide)) dX13_parcel_2 h1 ?_
  refine k_aload_n B 0 rfl rfl dX13_parcel_5 ?_
  refine k_iload_n B 1 rfl rfl dX13_parcel_6 ?_
  refine callV_I (st := []) B [.int v1] (hc) (cwV 1 B.1.2.2.2.2 (gV qlRX13_163 qiX13_isParcel qeX13_isParcel qzRX13 qcX13_isParcel) rfl rfl rfl (by decide +kernel) ⟨Nat.le_of_ble_eq_true rfl, Nat.le_of_ble_eq_true rfl⟩) rfl rfl (by decide) h1 (Nat.le_of_ble_eq_true rfl) rfl dX13_parcel_7 ⟨h2, h3⟩ (fun r S' hp => ?_)
  exact kk r S' hp
theorem bX13_parcel_10 (B : Bd p s m args meth c cX13_parcel 3 (wsOf yX13_parcel cX13_parcel 3 (some .int)) RX13 w (some .int) "parcel") {v0 : Nat} {v1 : Int32} {v2 : Int32} {t0 : Int32} {k n : Nat} {Q : State → Prop}  (kt : t0 = 0 → K p l e rX13_parcel s m args below meth c 3 w k n Q S 32 [(0, .ref v0)] []) (kf : ¬ t0 = 0 → K p l e rX13_parcel s m args below meth c 3 w k n Q S 13 [(0, .ref v0), (1, .int v1), (2, .int v2)] []) : K p l e rX13_parcel s m args below meth c 3 w k n Q S 10 [(0, .ref v0), (1, .int v1), (2, .int v2)] [.int t0] := by
  refine k_if_eq (tgt := 32) B dX13_parcel_10 (by decide) (fun c => ?_) (fun c => ?_)
  · refine k_sub [0] rfl ?_
    exact kt c
  · exact kf c
theorem bX13_parcel_13 (B : Bd p s m args meth c cX13_parcel 3 (wsOf yX13_parcel cX13_parcel 3 (some .int)) RX13 w (some .int) "parcel") {v0 : Nat} {v1 : Int32} {v2 : Int32} {post : Int32 → St → Prop} {k n : Nat} {Q : State → Prop} (hc : ConI l yX13_isIn (wsOf yX13_isIn cX13_isIn 3 (some .boolean)) rX13_isIn w S [.int v2, .int 0, .int 8] post) (h1 : k + 0 ≤ rX13_parcel.cells) (h2 : n + 0 ≤ rX13_parcel.slots) (kk : ∀ (r : Int32) (S' : St), post r S' → K p l e rX13_parcel s m args below meth c 3 w k n Q S' 20 [(0, .ref v0), (1, .int v1), (2, .int v2)] [.int r]) : K p l e rX13_parcel s m args below meth c 3 w k n Q S 13 [(0, .ref v0), (1, .int v1), (2, .int v2)] [] := by
  refine k_iload_n B 2 rfl rfl dX13_parcel_13 ?_
  refine k_iconst (v := 0) B (by decide) dX13_parcel_14 ?_
  refine k_bipush (v := 8) B (by decide) dX13_parcel_15 ?_
  refine callS_I (st := []) B [.int v2, .int 0, .int 8] (hc) (va_cwS 3 B.1.2.2.2.2 (gS qlRX13_98 qsX13_isIn qzRX13 qcX13_isIn) rfl rfl rfl (by decide +kernel) ⟨Nat.le_of_ble_eq_true rfl, Nat.le_of_ble_eq_true rfl⟩) rfl (Nat.le_of_ble_eq_true rfl) rfl dX13_parcel_17 ⟨h1, h2⟩ (fun r S' hp => ?_)
  exact kk r S' hp
theorem bX13_parcel_20 (B : Bd p s m args meth c cX13_parcel 3 (wsOf yX13_parcel cX13_parcel 3 (some .int)) RX13 w (some .int) "parcel") {v0 : Nat} {v1 : Int32} {v2 : Int32} {t0 : Int32} {k n : Nat} {Q : State → Prop}  (kt : t0 = 0 → K p l e rX13_parcel s m args below meth c 3 w k n Q S 32 [(0, .ref v0)] []) (kf : ¬ t0 = 0 → K p l e rX13_parcel s m args below meth c 3 w k n Q S 23 [(0, .ref v0), (1, .int v1), (2, .int v2)] []) : K p l e rX13_parcel s m args below meth c 3 w k n Q S 20 [(0, .ref v0), (1, .int v1), (2, .int v2)] [.int t0] := by
  refine k_if_eq (tgt := 32) B dX13_parcel_20 (by decide) (fun c => ?_) (fun c => ?_)
  · refine k_sub [0] rfl ?_
    exact kt c
  · exact kf c
theorem bX13_parcel_23 (B : Bd p s m args meth c cX13_parcel 3 (wsOf yX13_parcel cX13_parcel 3 (some .int)) RX13 w (some .int) "parcel") {v0 : Nat} {v1 : Int32} {v2 : Int32} {post : Int32 → St → Prop} {k n : Nat} {Q : State → Prop} (hc : ConI l yX13_parcelTold (wsOf yX13_parcelTold cX13_parcelTold 4 (some .int)) rX13_parcelTold w S [.ref v0, .int v1, .int v2] post) (h1 : k + 1 ≤ rX13_parcel.cells) (h2 : n + 9 ≤ rX13_parcel.slots) (h3 : kd S v0 = 15) (kk : ∀ (r : Int32) (S' : St), post r S' → K p l e rX13_parcel s m args below meth c 3 w (k + 1) (n + 9) Q S' 29 [] [.int r]) : K p l e rX13_parcel s m args below meth c 3 w k n Q S 23 [(0, .ref v0), (1, .int v1), (2, .int v2)] [] := by
  refine k_aload_n B 0 rfl rfl dX13_parcel_23 ?_
  refine k_iload_n B 1 rfl rfl dX13_parcel_24 ?_
  refine k_iload_n B 2 rfl rfl dX13_parcel_25 ?_
  refine callV_I (st := []) B [.int v1, .int v2] (hc) (cwV 2 B.1.2.2.2.2 (gV qlRX13_166 qiX13_parcelTold qeX13_parcelTold qzRX13 qcX13_parcelTold) rfl rfl rfl (by decide +kernel) ⟨Nat.le_of_ble_eq_true rfl, Nat.le_of_ble_eq_true rfl⟩) rfl rfl (by decide) h3 (Nat.le_of_ble_eq_true rfl) rfl dX13_parcel_26 ⟨h1, h2⟩ (fun r S' hp => ?_)
  refine k_sub [] rfl ?_
  exact kk r S' hp
theorem bX13_parcel_29 (B : Bd p s m args meth c cX13_parcel 3 (wsOf yX13_parcel cX13_parcel 3 (some .int)) RX13 w (some .int) "parcel") {t0 : Int32} {k n : Nat} {Q : State → Prop}  (kk : K p l e rX13_parcel s m args below meth c 3 w k n Q S 37 [] [.int t0]) : K p l e rX13_parcel s m args below meth c 3 w k n Q S 29 [] [.int t0] := by
  refine k_goto (tgt := 37) B dX13_parcel_29 (by decide) ?_
  exact kk
theorem bX13_parcel_32 (B : Bd p s m args meth c cX13_parcel 3 (wsOf yX13_parcel cX13_parcel 3 (some .int)) RX13 w (some .int) "parcel") {v0 : Nat} {post : Int32 → St → Prop} {k n : Nat} {Q : State → Prop} (hc : ConI l yX13_no (wsOf yX13_no cX13_no 2 (some .int)) rX13_no w S [.ref v0, .int 1] post) (h1 : k + 0 ≤ rX13_parcel.cells) (h2 : n + 0 ≤ rX13_parcel.slots) (h3 : kd S v0 = 15) (kk : ∀ (r : Int32) (S' : St), post r S' → K p l e rX13_parcel s m args below meth c 3 w k n Q S' 37 [] [.int r]) : K p l e rX13_parcel s m args below meth c 3 w k n Q S 32 [(0, .ref v0)] [] := by
  refine k_aload_n B 0 rfl rfl dX13_parcel_32 ?_
  refine k_iconst (v := 1) B (by decide) dX13_parcel_33 ?_
  refine callV_I (st := []) B [.int 1] (hc) (cwV 1 B.1.2.2.2.2 (gV qlRX13_120 qiX13_no qeX13_no qzRX13 qcX13_no) rfl rfl rfl (by decide +kernel) ⟨Nat.le_of_ble_eq_true rfl, Nat.le_of_ble_eq_true rfl⟩) rfl rfl (by decide) h3 (Nat.le_of_ble_eq_true rfl) rfl dX13_parcel_34 ⟨h1, h2⟩ (fun r S' hp => ?_)
  refine k_sub [] rfl ?_
  exact kk r S' hp
theorem bX13_parcel_37 (B : Bd p s m args meth c cX13_parcel 3 (wsOf yX13_parcel cX13_parcel 3 (some .int)) RX13 w (some .int) "parcel") {t0 : Int32} {post : Int32 → St → Prop} {k n : Nat}  (hq : post t0 S) : K p l e rX13_parcel s m args below meth c 3 w k n (MQ below (va_Qi post (fun S' t => Hd w S' t.heap) (wA w)) args s k n (wA w)) S 37 [] [.int t0] := by
  exact ret_I B rfl dX13_parcel_37 (hq)
theorem bX13_look_0 (B : Bd p s m args meth c cX13_look 2 (wsOf yX13_look cX13_look 2 none) RX13 w none "look") {v0 : Nat} {v1 : Int32} {x1 : Nat} {x2 : Nat} {x3 : Nat} {x4 : Nat} {x5 : Nat} {post : St → Prop} (h1 : kd S v0 = 15) (h2 : gP S 919 v0 = some x1) (h3 : kd S x1 = 14) (h4 : gP S 840 x1 = some x2) (h5 : kd S x2 = 21) (h6 : vp_in v1 (ln S x2)) (h7 : gP S 919 v0 = some x3) (h8 : kd S x3 = 14) (h9 : gP S 841 x3 = some x4) (h10 : gP S 921 v0 = some x5) (h11 : kd S x4 = 21) (h12 : kd S x5 = 21) (h13 : ¬ (12 * v1) < 0) (h14 : ¬ ((rI S x2) v1.toNatClampNeg) < 0) (h15 : (12 * v1).toNatClampNeg + ((rI S x2) v1.toNatClampNeg).toNatClampNeg ≤ ln S x4) (h16 : (0 : Int32).toNatClampNeg + ((rI S x2) v1.toNatClampNeg).toNatClampNeg ≤ ln S x5) (hq : post (sRI (sI S 922 v0 ((rI S x2) v1.toNatClampNeg)) x5 (va_cpy (rI (sI S 922 v0 ((rI S x2) v1.toNatClampNeg)) x4) (rI (sI S 922 v0 ((rI S x2) v1.toNatClampNeg)) x5) (12 * v1).toNatClampNeg (0 : Int32).toNatClampNeg ((rI S x2) v1.toNatClampNeg).toNatClampNeg))) : K p l e rX13_look s m args below meth c 2 w 0 0 (MQ below (va_Qv post (fun S' t => Hd w S' t.heap) (wA w)) args s 0 0 (wA w)) S 0 [(0, .ref v0), (1, .int v1)] [] := by
  refine k_aload_n B 0 rfl rfl dX13_look_0 ?_
  refine k_aload_n B 0 rfl rfl dX13_look_1 ?_
  refine k_getP (f := 919) (r := gP S 919 v0) B 14 23 rfl (by decide) rfl (by decide) rfl rfl (fun w h => in_of (uw_14 w h)) (in_of qfRX13_70) dX13_look_2 h1 rfl ?_
  rw [h2]; change K _ _ _ _ _ _ _ _ _ _ _ _ _ _ _ _ _ _ (.ref x1 :: _)
  refine k_getPN (f := 840) (r := gP S 840 x1) B 13 8 rfl (by decide) rfl (by decide) rfl rfl (fun w h => in_of (uw_13 w h)) "LastMileModel" (nzF_5 B.2.2.2.1.2.2.2.1) dX13_look_5 h3 rfl ?_
  rw [h4]; change K _ _ _ _ _ _ _ _ _ _ _ _ _ _ _ _ _ _ (.ref x2 :: _)
  refine k_iload_n B 1 rfl rfl dX13_look_8 ?_
  refine k_iald (v := (rI S x2) v1.toNatClampNeg) B dX13_look_9 h5 h6 rfl ?_
  refine k_putI (f := 922) B 14 26 rfl (by decide) rfl (by decide) rfl rfl (fun w h => in_of (uw_14 w h)) (in_of qfRX13_172) tyX13 tyX13_ok nmX13 rfl (tyX13_ok 26 (by decide)) dX13_look_10 h1 ?_
  refine k_aload_n B 0 rfl rfl dX13_look_13 ?_
  refine k_getP (f := 919) (r := gP S 919 v0) B 14 23 rfl (by decide) rfl (by decide) rfl rfl (fun w h => in_of (uw_14 w h)) (in_of qfRX13_70) dX13_look_14 h1 rfl ?_
  rw [h7]; change K _ _ _ _ _ _ _ _ _ _ _ _ _ _ _ _ _ _ (.ref x3 :: _)
  refine k_getPN (f := 841) (r := gP S 841 x3) B 13 9 rfl (by decide) rfl (by decide) rfl rfl (fun w h => in_of (uw_13 w h)) "LastMileModel" (nzF_6 B.2.2.2.1.2.2.2.1) dX13_look_17 h8 rfl ?_
  rw [h9]; change K _ _ _ _ _ _ _ _ _ _ _ _ _ _ _ _ _ _ (.ref x4 :: _)
  refine k_bipush (v := 12) B (by decide) dX13_look_20 ?_
  refine k_iload_n B 1 rfl rfl dX13_look_22 ?_
  refine k_imul B dX13_look_23 ?_
  refine k_aload_n B 0 rfl rfl dX13_look_24 ?_
  refine k_getP (f := 921) (r := gP S 921 v0) B 14 25 rfl (by decide) rfl (by decide) rfl rfl (fun w h => in_of (uw_14 w h)) (in_of qfRX13_77) dX13_look_25 h1 rfl ?_
  rw [h10]; change K _ _ _ _ _ _ _ _ _ _ _ _ _ _ _ _ _ _ (.ref x5 :: _)
  refine k_iconst (v := 0) B (by decide) dX13_look_28 ?_
  refine k_aload_n B 0 rfl rfl dX13_look_29 ?_
  refine k_getI (f := 922) (v := (rI S x2) v1.toNatClampNeg) B 14 26 rfl (by decide) rfl (by decide) rfl rfl (fun w h => in_of (uw_14 w h)) (in_of qfRX13_172) dX13_look_30 h1 (by simp [kd_sI, kd_sP, kd_sRI, kd_sRP, kd_nw, gI_sI, gI_sP, gI_sRI, gI_sRP, gI_nw, gP_sI, gP_sP, gP_sRI, gP_sRP, gP_nw, ln_sI, ln_sP, ln_sRI, ln_sRP, ln_nw, rI_sI, rI_sP, rI_sRI, rI_sRP, rI_nw, rP_sI, rP_sP, rP_sRI, rP_sRP, rP_nw, va_up_self]) ?_
  refine k_acopy B (in_of qlRX13_138) (in_of qnat_copy) (in_of qs_copy) (in_of qz_System) h11 h12 h13 (by decide) h14 h15 h16 (Nat.le_of_ble_eq_true rfl) (Nat.le_of_ble_eq_true rfl) dX13_look_33 ?_
  exact ret_V B rfl dX13_look_36 (hq)
theorem bX13_insert_0 (B : Bd p s m args meth c cX13_insert 3 (wsOf yX13_insert cX13_insert 3 none) RX13 w none "insert") {v0 : Nat} {v1 : Int32} {v2 : Int32} {x1 : Nat} {x2 : Nat} {x3 : Nat} {Q : State → Prop} (h1 : kd S v0 = 15) (h2 : gP S 921 v0 = some x1) (h3 : gP S 921 v0 = some x2) (h4 : kd S x1 = 21) (h5 : kd S x2 = 21) (h6 : ¬ v2 < 0) (h7 : ¬ (v2 + 1) < 0) (h8 : ¬ ((gI S 922 v0) - v2) < 0) (h9 : v2.toNatClampNeg + ((gI S 922 v0) - v2).toNatClampNeg ≤ ln S x1) (h10 : (v2 + 1).toNatClampNeg + ((gI S 922 v0) - v2).toNatClampNeg ≤ ln S x2) (h11 : gP S 921 v0 = some x3) (h12 : kd S x3 = 21) (h13 : vp_in v2 (ln S x3)) (kk : K p l e rX13_insert s m args below meth c 3 w 0 0 Q (sRI (sRI S x2 (va_cpy (rI S x1) (rI S x2) v2.toNatClampNeg (v2 + 1).toNatClampNeg ((gI S 922 v0) - v2).toNatClampNeg)) x3 (va_up (rI (sRI S x2 (va_cpy (rI S x1) (rI S x2) v2.toNatClampNeg (v2 + 1).toNatClampNeg ((gI S 922 v0) - v2).toNatClampNeg)) x3) v2.toNatClampNeg v1)) 28 [(0, .ref v0)] []) : K p l e rX13_insert s m args below meth c 3 w 0 0 Q S 0 [(0, .ref v0), (1, .int v1), (2, .int v2)] [] := by
  refine k_aload_n B 0 rfl rfl dX13_insert_0 ?_
  refine k_getP (f := 921) (r := gP S 921 v0) B 14 25 rfl (by decide) rfl (by decide) rfl rfl (fun w h => in_of (uw_14 w h)) (in_of qfRX13_77) dX13_insert_1 h1 rfl ?_
  rw [h2]; change K _ _ _ _ _ _ _ _ _ _ _ _ _ _ _ _ _ _ (.ref x1 :: _)
  refine k_iload_n B 2 rfl rfl dX13_insert_4 ?_
  refine k_aload_n B 0 rfl rfl dX13_insert_5 ?_
  refine k_getP (f := 921) (r := gP S 921 v0) B 14 25 rfl (by decide) rfl (by decide) rfl rfl (fun w h => in_of (uw_14 w h)) (in_of qfRX13_77) dX13_insert_6 h1 rfl ?_
  rw [h3]; change K _ _ _ _ _ _ _ _ _ _ _ _ _ _ _ _ _ _ (.ref x2 :: _)
  refine k_iload_n B 2 rfl rfl dX13_insert_9 ?_
  refine k_iconst (v := 1) B (by decide) dX13_insert_10 ?_
  refine k_iadd B dX13_insert_11 ?_
  refine k_aload_n B 0 rfl rfl dX13_insert_12 ?_
  refine k_getI (f := 922) (v := gI S 922 v0) B 14 26 rfl (by decide) rfl (by decide) rfl rfl (fun w h => in_of (uw_14 w h)) (in_of qfRX13_172) dX13_insert_13 h1 rfl ?_
  refine k_iload_n B 2 rfl rfl dX13_insert_16 ?_
  refine k_isub B dX13_insert_17 ?_
  refine k_acopy B (in_of qlRX13_138) (in_of qnat_copy) (in_of qs_copy) (in_of qz_System) h4 h5 h6 h7 h8 h9 h10 (Nat.le_of_ble_eq_true rfl) (Nat.le_of_ble_eq_true rfl) dX13_insert_18 ?_
  refine k_aload_n B 0 rfl rfl dX13_insert_21 ?_
  refine k_getP (f := 921) (r := gP S 921 v0) B 14 25 rfl (by decide) rfl (by decide) rfl rfl (fun w h => in_of (uw_14 w h)) (in_of qfRX13_77) dX13_insert_22 h1 rfl ?_
  rw [h11]; change K _ _ _ _ _ _ _ _ _ _ _ _ _ _ _ _ _ _ (.ref x3 :: _)
  refine k_iload_n B 2 rfl rfl dX13_insert_25 ?_
  refine k_iload_n B 1 rfl rfl dX13_insert_26 ?_
  refine k_iast (g := rI (sRI S x2 (va_cpy (rI S x1) (rI S x2) v2.toNatClampNeg (v2 + 1).toNatClampNeg ((gI S 922 v0) - v2).toNatClampNeg)) x3) (S' := sRI (sRI S x2 (va_cpy (rI S x1) (rI S x2) v2.toNatClampNeg (v2 + 1).toNatClampNeg ((gI S 922 v0) - v2).toNatClampNeg)) x3 (va_up (rI (sRI S x2 (va_cpy (rI S x1) (rI S x2) v2.toNatClampNeg (v2 + 1).toNatClampNeg ((gI S 922 v0) - v2).toNatClampNeg)) x3) v2.toNatClampNeg v1)) B dX13_insert_27 h12 h13 rfl rfl ?_
  refine k_sub [0] rfl ?_
  exact kk
theorem bX13_insert_28 (B : Bd p s m args meth c cX13_insert 3 (wsOf yX13_insert cX13_insert 3 none) RX13 w none "insert") {v0 : Nat} {post : St → Prop} (h1 : kd S v0 = 15) (hq : post (sI S 922 v0 ((gI S 922 v0) + 1))) : K p l e rX13_insert s m args below meth c 3 w 0 0 (MQ below (va_Qv post (fun S' t => Hd w S' t.heap) (wA w)) args s 0 0 (wA w)) S 28 [(0, .ref v0)] [] := by
  refine k_aload_n B 0 rfl rfl dX13_insert_28 ?_
  refine k_dup B rfl dX13_insert_29 ?_
  refine k_getI (f := 922) (v := gI S 922 v0) B 14 26 rfl (by decide) rfl (by decide) rfl rfl (fun w h => in_of (uw_14 w h)) (in_of qfRX13_172) dX13_insert_30 h1 rfl ?_
  refine k_iconst (v := 1) B (by decide) dX13_insert_33 ?_
  refine k_iadd B dX13_insert_34 ?_
  refine k_putI (f := 922) B 14 26 rfl (by decide) rfl (by decide) rfl rfl (fun w h => in_of (uw_14 w h)) (in_of qfRX13_172) tyX13 tyX13_ok nmX13 rfl (tyX13_ok 26 (by decide)) dX13_insert_35 h1 ?_
  exact ret_V B rfl dX13_insert_38 (hq)
theorem bX13_remove_0 (B : Bd p s m args meth c cX13_remove 2 (wsOf yX13_remove cX13_remove 2 none) RX13 w none "remove") {v0 : Nat} {v1 : Int32} {x1 : Nat} {x2 : Nat} {post : St → Prop} (h1 : kd S v0 = 15) (h2 : gP S 921 v0 = some x1) (h3 : gP S 921 v0 = some x2) (h4 : kd S x1 = 21) (h5 : kd S x2 = 21) (h6 : ¬ (v1 + 1) < 0) (h7 : ¬ v1 < 0) (h8 : ¬ (((gI S 922 v0) - 1) - v1) < 0) (h9 : (v1 + 1).toNatClampNeg + (((gI S 922 v0) - 1) - v1).toNatClampNeg ≤ ln S x1) (h10 : v1.toNatClampNeg + (((gI S 922 v0) - 1) - v1).toNatClampNeg ≤ ln S x2) (hq : post (sRI (sI S 922 v0 ((gI S 922 v0) - 1)) x2 (va_cpy (rI (sI S 922 v0 ((gI S 922 v0) - 1)) x1) (rI (sI S 922 v0 ((gI S 922 v0) - 1)) x2) (v1 + 1).toNatClampNeg v1.toNatClampNeg (((gI S 922 v0) - 1) - v1).toNatClampNeg))) : K p l e rX13_remove s m args below meth c 2 w 0 0 (MQ below (va_Qv post (fun S' t => Hd w S' t.heap) (wA w)) args s 0 0 (wA w)) S 0 [(0, .ref v0), (1, .int v1)] [] := by
  refine k_aload_n B 0 rfl rfl dX13_remove_0 ?_
  refine k_dup B rfl dX13_remove_1 ?_
  refine k_getI (f := 922) (v := gI S 922 v0) B 14 26 rfl (by decide) rfl (by decide) rfl rfl (fun w h => in_of (uw_14 w h)) (in_of qfRX13_172) dX13_remove_2 h1 rfl ?_
  refine k_iconst (v := 1) B (by decide) dX13_remove_5 ?_
  refine k_isub B dX13_remove_6 ?_
  refine k_putI (f := 922) B 14 26 rfl (by decide) rfl (by decide) rfl rfl (fun w h => in_of (uw_14 w h)) (in_of qfRX13_172) tyX13 tyX13_ok nmX13 rfl (tyX13_ok 26 (by decide)) dX13_remove_7 h1 ?_
  refine k_aload_n B 0 rfl rfl dX13_remove_10 ?_
  refine k_getP (f := 921) (r := gP S 921 v0) B 14 25 rfl (by decide) rfl (by decide) rfl rfl (fun w h => in_of (uw_14 w h)) (in_of qfRX13_77) dX13_remove_11 h1 rfl ?_
  rw [h2]; change K _ _ _ _ _ _ _ _ _ _ _ _ _ _ _ _ _ _ (.ref x1 :: _)
  refine k_iload_n B 1 rfl rfl dX13_remove_14 ?_
  refine k_iconst (v := 1) B (by decide) dX13_remove_15 ?_
  refine k_iadd B dX13_remove_16 ?_
  refine k_aload_n B 0 rfl rfl dX13_remove_17 ?_
  refine k_getP (f := 921) (r := gP S 921 v0) B 14 25 rfl (by decide) rfl (by decide) rfl rfl (fun w h => in_of (uw_14 w h)) (in_of qfRX13_77) dX13_remove_18 h1 rfl ?_
  rw [h3]; change K _ _ _ _ _ _ _ _ _ _ _ _ _ _ _ _ _ _ (.ref x2 :: _)
  refine k_iload_n B 1 rfl rfl dX13_remove_21 ?_
  refine k_aload_n B 0 rfl rfl dX13_remove_22 ?_
  refine k_getI (f := 922) (v := (gI S 922 v0) - 1) B 14 26 rfl (by decide) rfl (by decide) rfl rfl (fun w h => in_of (uw_14 w h)) (in_of qfRX13_172) dX13_remove_23 h1 (by simp [kd_sI, kd_sP, kd_sRI, kd_sRP, kd_nw, gI_sI, gI_sP, gI_sRI, gI_sRP, gI_nw, gP_sI, gP_sP, gP_sRI, gP_sRP, gP_nw, ln_sI, ln_sP, ln_sRI, ln_sRP, ln_nw, rI_sI, rI_sP, rI_sRI, rI_sRP, rI_nw, rP_sI, rP_sP, rP_sRI, rP_sRP, rP_nw, va_up_self]) ?_
  refine k_iload_n B 1 rfl rfl dX13_remove_26 ?_
  refine k_isub B dX13_remove_27 ?_
  refine k_acopy B (in_of qlRX13_138) (in_of qnat_copy) (in_of qs_copy) (in_of qz_System) h4 h5 h6 h7 h8 h9 h10 (Nat.le_of_ble_eq_true rfl) (Nat.le_of_ble_eq_true rfl) dX13_remove_28 ?_
  exact ret_V B rfl dX13_remove_31 (hq)
theorem bX13_keep_0 (B : Bd p s m args meth c cX13_keep 2 (wsOf yX13_keep cX13_keep 2 none) RX13 w none "keep") {v0 : Nat} {v1 : Int32} {x1 : Nat} {x2 : Nat} {x3 : Nat} {x4 : Nat} {x5 : Nat} {Q : State → Prop} (h1 : kd S v0 = 15) (h2 : gP S 921 v0 = some x1) (h3 : gP S 919 v0 = some x2) (h4 : kd S x2 = 14) (h5 : gP S 841 x2 = some x3) (h6 : kd S x1 = 21) (h7 : kd S x3 = 21) (h8 : ¬ (12 * v1) < 0) (h9 : ¬ (gI S 922 v0) < 0) (h10 : (0 : Int32).toNatClampNeg + (gI S 922 v0).toNatClampNeg ≤ ln S x1) (h11 : (12 * v1).toNatClampNeg + (gI S 922 v0).toNatClampNeg ≤ ln S x3) (h12 : gP S 919 v0 = some x4) (h13 : kd S x4 = 14) (h14 : gP S 840 x4 = some x5) (h15 : kd S x5 = 21) (h16 : vp_in v1 (ln S x5)) (kk : K p l e rX13_keep s m args below meth c 2 w 0 0 Q (sRI (sRI S x3 (va_cpy (rI S x1) (rI S x3) (0 : Int32).toNatClampNeg (12 * v1).toNatClampNeg (gI S 922 v0).toNatClampNeg)) x5 (va_up (rI (sRI S x3 (va_cpy (rI S x1) (rI S x3) (0 : Int32).toNatClampNeg (12 * v1).toNatClampNeg (gI S 922 v0).toNatClampNeg)) x5) v1.toNatClampNeg (gI S 922 v0))) 36 [] []) : K p l e rX13_keep s m args below meth c 2 w 0 0 Q S 0 [(0, .ref v0), (1, .int v1)] [] := by
  refine k_aload_n B 0 rfl rfl dX13_keep_0 ?_
  refine k_getP (f := 921) (r := gP S 921 v0) B 14 25 rfl (by decide) rfl (by decide) rfl rfl (fun w h => in_of (uw_14 w h)) (in_of qfRX13_77) dX13_keep_1 h1 rfl ?_
  rw [h2]; change K _ _ _ _ _ _ _ _ _ _ _ _ _ _ _ _ _ _ (.ref x1 :: _)
  refine k_iconst (v := 0) B (by decide) dX13_keep_4 ?_
  refine k_aload_n B 0 rfl rfl dX13_keep_5 ?_
  refine k_getP (f := 919) (r := gP S 919 v0) B 14 23 rfl (by decide) rfl (by decide) rfl rfl (fun w h => in_of (uw_14 w h)) (in_of qfRX13_70) dX13_keep_6 h1 rfl ?_
  rw [h3]; change K _ _ _ _ _ _ _ _ _ _ _ _ _ _ _ _ _ _ (.ref x2 :: _)
  refine k_getPN (f := 841) (r := gP S 841 x2) B 13 9 rfl (by decide) rfl (by decide) rfl rfl (fun w h => in_of (uw_13 w h)) "LastMileModel" (nzF_6 B.2.2.2.1.2.2.2.1) dX13_keep_9 h4 rfl ?_
  rw [h5]; change K _ _ _ _ _ _ _ _ _ _ _ _ _ _ _ _ _ _ (.ref x3 :: _)
  refine k_bipush (v := 12) B (by decide) dX13_keep_12 ?_
  refine k_iload_n B 1 rfl rfl dX13_keep_14 ?_
  refine k_imul B dX13_keep_15 ?_
  refine k_aload_n B 0 rfl rfl dX13_keep_16 ?_
  refine k_getI (f := 922) (v := gI S 922 v0) B 14 26 rfl (by decide) rfl (by decide) rfl rfl (fun w h => in_of (uw_14 w h)) (in_of qfRX13_172) dX13_keep_17 h1 rfl ?_
  refine k_acopy B (in_of qlRX13_138) (in_of qnat_copy) (in_of qs_copy) (in_of qz_System) h6 h7 (by decide) h8 h9 h10 h11 (Nat.le_of_ble_eq_true rfl) (Nat.le_of_ble_eq_true rfl) dX13_keep_20 ?_
  refine k_aload_n B 0 rfl rfl dX13_keep_23 ?_
  refine k_getP (f := 919) (r := gP S 919 v0) B 14 23 rfl (by decide) rfl (by decide) rfl rfl (fun w h => in_of (uw_14 w h)) (in_of qfRX13_70) dX13_keep_24 h1 rfl ?_
  rw [h12]; change K _ _ _ _ _ _ _ _ _ _ _ _ _ _ _ _ _ _ (.ref x4 :: _)
  refine k_getPN (f := 840) (r := gP S 840 x4) B 13 8 rfl (by decide) rfl (by decide) rfl rfl (fun w h => in_of (uw_13 w h)) "LastMileModel" (nzF_5 B.2.2.2.1.2.2.2.1) dX13_keep_27 h13 rfl ?_
  rw [h14]; change K _ _ _ _ _ _ _ _ _ _ _ _ _ _ _ _ _ _ (.ref x5 :: _)
  refine k_iload_n B 1 rfl rfl dX13_keep_30 ?_
  refine k_aload_n B 0 rfl rfl dX13_keep_31 ?_
  refine k_getI (f := 922) (v := gI S 922 v0) B 14 26 rfl (by decide) rfl (by decide) rfl rfl (fun w h => in_of (uw_14 w h)) (in_of qfRX13_172) dX13_keep_32 h1 rfl ?_
  refine k_iast (g := rI (sRI S x3 (va_cpy (rI S x1) (rI S x3) (0 : Int32).toNatClampNeg (12 * v1).toNatClampNeg (gI S 922 v0).toNatClampNeg)) x5) (S' := sRI (sRI S x3 (va_cpy (rI S x1) (rI S x3) (0 : Int32).toNatClampNeg (12 * v1).toNatClampNeg (gI S 922 v0).toNatClampNeg)) x5 (va_up (rI (sRI S x3 (va_cpy (rI S x1) (rI S x3) (0 : Int32).toNatClampNeg (12 * v1).toNatClampNeg (gI S 922 v0).toNatClampNeg)) x5) v1.toNatClampNeg (gI S 922 v0))) B dX13_keep_35 h15 h16 rfl rfl ?_
  refine k_sub [] rfl ?_
  exact kk
theorem bX13_keep_36 (B : Bd p s m args meth c cX13_keep 2 (wsOf yX13_keep cX13_keep 2 none) RX13 w none "keep") {post : St → Prop}  (hq : post S) : K p l e rX13_keep s m args below meth c 2 w 0 0 (MQ below (va_Qv post (fun S' t => Hd w S' t.heap) (wA w)) args s 0 0 (wA w)) S 36 [] [] := by
  exact ret_V B rfl dX13_keep_36 (hq)
theorem bX13_cost_0 (B : Bd p s m args meth c cX13_cost 14 (wsOf yX13_cost cX13_cost 14 (some .int)) RX13 w (some .int) "cost") {v0 : Nat} {v1 : Int32} {x1 : Nat} {Q : State → Prop} (h1 : kd S v0 = 15) (h2 : gP S 911 v0 = some x1) (h3 : kd S x1 = 21) (h4 : vp_in v1 (ln S x1)) (kk : K p l e rX13_cost s m args below meth c 14 w 0 0 Q S 27 [(0, .ref v0), (1, .int v1), (2, .int ((rI S x1) v1.toNatClampNeg)), (3, .int ((rI S x1) v1.toNatClampNeg)), (4, .int (gI S 898 v0)), (5, .int (gI S 899 v0)), (6, .int 0), (7, .int 0)] []) : K p l e rX13_cost s m args below meth c 14 w 0 0 Q S 0 [(0, .ref v0), (1, .int v1)] [] := by
  refine k_aload_n B 0 rfl rfl dX13_cost_0 ?_
  refine k_getP (f := 911) (r := gP S 911 v0) B 14 15 rfl (by decide) rfl (by decide) rfl rfl (fun w h => in_of (uw_14 w h)) (in_of qfRX13_44) dX13_cost_1 h1 rfl ?_
  rw [h2]; change K _ _ _ _ _ _ _ _ _ _ _ _ _ _ _ _ _ _ (.ref x1 :: _)
  refine k_iload_n B 1 rfl rfl dX13_cost_4 ?_
  refine k_iald (v := (rI S x1) v1.toNatClampNeg) B dX13_cost_5 h3 h4 rfl ?_
  refine k_istore_n (lst' := [(2, .int ((rI S x1) v1.toNatClampNeg)), (0, .ref v0), (1, .int v1)]) B rfl (by decide) rfl dX13_cost_6 ?_
  refine k_iload_n B 0 rfl rfl dX13_cost_7 ?_
  refine k_istore_n (lst' := [(3, .int ((rI S x1) v1.toNatClampNeg)), (2, .int ((rI S x1) v1.toNatClampNeg)), (0, .ref v0), (1, .int v1)]) B rfl (by decide) rfl dX13_cost_8 ?_
  refine k_aload_n B 2 rfl rfl dX13_cost_9 ?_
  refine k_getI (f := 898) (v := gI S 898 v0) B 14 2 rfl (by decide) rfl (by decide) rfl rfl (fun w h => in_of (uw_14 w h)) (in_of qfRX13_13) dX13_cost_10 h1 rfl ?_
  refine k_istore (lst' := [(4, .int (gI S 898 v0)), (3, .int ((rI S x1) v1.toNatClampNeg)), (2, .int ((rI S x1) v1.toNatClampNeg)), (0, .ref v0), (1, .int v1)]) B (by decide) rfl dX13_cost_13 ?_
  refine k_aload_n B 3 rfl rfl dX13_cost_15 ?_
  refine k_getI (f := 899) (v := gI S 899 v0) B 14 3 rfl (by decide) rfl (by decide) rfl rfl (fun w h => in_of (uw_14 w h)) (in_of qfRX13_17) dX13_cost_16 h1 rfl ?_
  refine k_istore (lst' := [(5, .int (gI S 899 v0)), (4, .int (gI S 898 v0)), (3, .int ((rI S x1) v1.toNatClampNeg)), (2, .int ((rI S x1) v1.toNatClampNeg)), (0, .ref v0), (1, .int v1)]) B (by decide) rfl dX13_cost_19 ?_
  refine k_iconst (v := 0) B (by decide) dX13_cost_21 ?_
  refine k_istore (lst' := [(6, .int 0), (5, .int (gI S 899 v0)), (4, .int (gI S 898 v0)), (3, .int ((rI S x1) v1.toNatClampNeg)), (2, .int ((rI S x1) v1.toNatClampNeg)), (0, .ref v0), (1, .int v1)]) B (by decide) rfl dX13_cost_22 ?_
  refine k_iconst (v := 0) B (by decide) dX13_cost_24 ?_
  refine k_istore (lst' := [(7, .int 0), (6, .int 0), (5, .int (gI S 899 v0)), (4, .int (gI S 898 v0)), (3, .int ((rI S x1) v1.toNatClampNeg)), (2, .int ((rI S x1) v1.toNatClampNeg)), (0, .ref v0), (1, .int v1)]) B (by decide) rfl dX13_cost_25 ?_
  refine k_sub [6, 7, 5, 4, 3, 2, 1, 0] rfl ?_
  exact kk
theorem bX13_cost_27 (B : Bd p s m args meth c cX13_cost 14 (wsOf yX13_cost cX13_cost 14 (some .int)) RX13 w (some .int) "cost") {v0 : Nat} {v1 : Int32} {v2 : Int32} {v3 : Int32} {v4 : Int32} {v5 : Int32} {v6 : Int32} {v7 : Int32} {Q : State → Prop} (h1 : kd S v0 = 15) (kt : (gI S 922 v0) ≤ v7 → K p l e rX13_cost s m args below meth c 14 w 0 0 Q S 79 [(0, .ref v0), (1, .int v1), (2, .int v2), (3, .int v3), (4, .int v4), (5, .int v5), (6, .int v6)] []) (kf : ¬ (gI S 922 v0) ≤ v7 → K p l e rX13_cost s m args below meth c 14 w 0 0 Q S 36 [(0, .ref v0), (1, .int v1), (2, .int v2), (3, .int v3), (4, .int v4), (5, .int v5), (6, .int v6), (7, .int v7)] []) : K p l e rX13_cost s m args below meth c 14 w 0 0 Q S 27 [(0, .ref v0), (1, .int v1), (2, .int v2), (3, .int v3), (4, .int v4), (5, .int v5), (6, .int v6), (7, .int v7)] [] := by
  refine k_iload B 7 rfl dX13_cost_27 ?_
  refine k_aload_n B 0 rfl rfl dX13_cost_29 ?_
  refine k_getI (f := 922) (v := gI S 922 v0) B 14 26 rfl (by decide) rfl (by decide) rfl rfl (fun w h => in_of (uw_14 w h)) (in_of qfRX13_172) dX13_cost_30 h1 rfl ?_
  refine k_icmp_ge (tgt := 79) B dX13_cost_33 (by decide) (fun c => ?_) (fun c => ?_)
  · refine k_sub [0, 1, 2, 3, 4, 5, 6] rfl ?_
    exact kt c
  · exact kf c
theorem bX13_cost_36 (B : Bd p s m args meth c cX13_cost 14 (wsOf yX13_cost cX13_cost 14 (some .int)) RX13 w (some .int) "cost") {v0 : Nat} {v1 : Int32} {v2 : Int32} {v3 : Int32} {v4 : Int32} {v5 : Int32} {v6 : Int32} {v7 : Int32} {x1 : Nat} {x2 : Nat} {Q : State → Prop} (h1 : kd S v0 = 15) (h2 : gP S 914 v0 = some x1) (h3 : gP S 921 v0 = some x2) (h4 : kd S x2 = 21) (h5 : vp_in v7 (ln S x2)) (h6 : kd S x1 = 21) (h7 : vp_in ((rI S x2) v7.toNatClampNeg) (ln S x1)) (kt : ¬ ((rI S x1) ((rI S x2) v7.toNatClampNeg).toNatClampNeg) = 2 → K p l e rX13_cost s m args below meth c 14 w 0 0 Q S 58 [(0, .ref v0), (1, .int v1), (2, .int v2), (3, .int v3), (4, .int v4), (5, .int v5), (7, .int v7)] [.int v6]) (kf : ((rI S x1) ((rI S x2) v7.toNatClampNeg).toNatClampNeg) = 2 → K p l e rX13_cost s m args below meth c 14 w 0 0 Q S 54 [(0, .ref v0), (1, .int v1), (2, .int v2), (3, .int v3), (4, .int v4), (5, .int v5), (7, .int v7)] [.int v6]) : K p l e rX13_cost s m args below meth c 14 w 0 0 Q S 36 [(0, .ref v0), (1, .int v1), (2, .int v2), (3, .int v3), (4, .int v4), (5, .int v5), (6, .int v6), (7, .int v7)] [] := by
  refine k_iload B 6 rfl dX13_cost_36 ?_
  refine k_aload_n B 0 rfl rfl dX13_cost_38 ?_
  refine k_getP (f := 914) (r := gP S 914 v0) B 14 18 rfl (by decide) rfl (by decide) rfl rfl (fun w h => in_of (uw_14 w h)) (in_of qfRX13_50) dX13_cost_39 h1 rfl ?_
  rw [h2]; change K _ _ _ _ _ _ _ _ _ _ _ _ _ _ _ _ _ _ (.ref x1 :: _)
  refine k_aload_n B 0 rfl rfl dX13_cost_42 ?_
  refine k_getP (f := 921) (r := gP S 921 v0) B 14 25 rfl (by decide) rfl (by decide) rfl rfl (fun w h => in_of (uw_14 w h)) (in_of qfRX13_77) dX13_cost_43 h1 rfl ?_
  rw [h3]; change K _ _ _ _ _ _ _ _ _ _ _ _ _ _ _ _ _ _ (.ref x2 :: _)
  refine k_iload B 7 rfl dX13_cost_46 ?_
  refine k_iald (v := (rI S x2) v7.toNatClampNeg) B dX13_cost_48 h4 h5 rfl ?_
  refine k_iald (v := (rI S x1) ((rI S x2) v7.toNatClampNeg).toNatClampNeg) B dX13_cost_49 h6 h7 rfl ?_
  refine k_iconst (v := 2) B (by decide) dX13_cost_50 ?_
  refine k_icmp_ne (tgt := 58) B dX13_cost_51 (by decide) (fun c => ?_) (fun c => ?_)
  · refine k_sub [0, 1, 2, 3, 4, 5, 7] rfl ?_
    exact kt c
  · refine k_sub [0, 1, 2, 3, 4, 5, 7] rfl ?_
    exact kf c
theorem bX13_cost_54 (B : Bd p s m args meth c cX13_cost 14 (wsOf yX13_cost cX13_cost 14 (some .int)) RX13 w (some .int) "cost") {v0 : Nat} {v1 : Int32} {v2 : Int32} {v3 : Int32} {v4 : Int32} {v5 : Int32} {v7 : Int32} {t0 : Int32} {Q : State → Prop}  (kk : K p l e rX13_cost s m args below meth c 14 w 0 0 Q S 70 [(0, .ref v0), (1, .int v1), (2, .int v2), (3, .int v3), (4, .int v4), (5, .int v5), (7, .int v7)] [.int 0, .int t0]) : K p l e rX13_cost s m args below meth c 14 w 0 0 Q S 54 [(0, .ref v0), (1, .int v1), (2, .int v2), (3, .int v3), (4, .int v4), (5, .int v5), (7, .int v7)] [.int t0] := by
  refine k_iconst (v := 0) B (by decide) dX13_cost_54 ?_
  refine k_goto (tgt := 70) B dX13_cost_55 (by decide) ?_
  exact kk
theorem bX13_cost_58 (B : Bd p s m args meth c cX13_cost 14 (wsOf yX13_cost cX13_cost 14 (some .int)) RX13 w (some .int) "cost") {v0 : Nat} {v1 : Int32} {v2 : Int32} {v3 : Int32} {v4 : Int32} {v5 : Int32} {v7 : Int32} {t0 : Int32} {x1 : Nat} {x2 : Nat} {Q : State → Prop} (h1 : kd S v0 = 15) (h2 : gP S 915 v0 = some x1) (h3 : gP S 921 v0 = some x2) (h4 : kd S x2 = 21) (h5 : vp_in v7 (ln S x2)) (h6 : kd S x1 = 21) (h7 : vp_in ((rI S x2) v7.toNatClampNeg) (ln S x1)) (kk : K p l e rX13_cost s m args below meth c 14 w 0 0 Q S 70 [(0, .ref v0), (1, .int v1), (2, .int v2), (3, .int v3), (4, .int v4), (5, .int v5), (7, .int v7)] [.int ((rI S x1) ((rI S x2) v7.toNatClampNeg).toNatClampNeg), .int t0]) : K p l e rX13_cost s m args below meth c 14 w 0 0 Q S 58 [(0, .ref v0), (1, .int v1), (2, .int v2), (3, .int v3), (4, .int v4), (5, .int v5), (7, .int v7)] [.int t0] := by
  refine k_aload_n B 0 rfl rfl dX13_cost_58 ?_
  refine k_getP (f := 915) (r := gP S 915 v0) B 14 19 rfl (by decide) rfl (by decide) rfl rfl (fun w h => in_of (uw_14 w h)) (in_of qfRX13_53) dX13_cost_59 h1 rfl ?_
  rw [h2]; change K _ _ _ _ _ _ _ _ _ _ _ _ _ _ _ _ _ _ (.ref x1 :: _)
  refine k_aload_n B 0 rfl rfl dX13_cost_62 ?_
  refine k_getP (f := 921) (r := gP S 921 v0) B 14 25 rfl (by decide) rfl (by decide) rfl rfl (fun w h => in_of (uw_14 w h)) (in_of qfRX13_77) dX13_cost_63 h1 rfl ?_
  rw [h3]; change K _ _ _ _ _ _ _ _ _ _ _ _ _ _ _ _ _ _ (.ref x2 :: _)
  refine k_iload B 6 rfl dX13_cost_66 ?_
  refine k_iald (v := (rI S x2) v7.toNatClampNeg) B dX13_cost_68 h4 h5 rfl ?_
  refine k_iald (v := (rI S x1) ((rI S x2) v7.toNatClampNeg).toNatClampNeg) B dX13_cost_69 h6 h7 rfl ?_
  exact kk
theorem bX13_cost_70 (B : Bd p s m args meth c cX13_cost 14 (wsOf yX13_cost cX13_cost 14 (some .int)) RX13 w (some .int) "cost") {v0 : Nat} {v1 : Int32} {v2 : Int32} {v3 : Int32} {v4 : Int32} {v5 : Int32} {v7 : Int32} {t0 : Int32} {t1 : Int32} {Q : State → Prop}  (kk : K p l e rX13_cost s m args below meth c 14 w 0 0 Q S 27 [(0, .ref v0), (1, .int v1), (2, .int v2), (3, .int v3), (4, .int v4), (5, .int v5), (6, .int (t0 + t1)), (7, .int (v7 + 1))] []) : K p l e rX13_cost s m args below meth c 14 w 0 0 Q S 70 [(0, .ref v0), (1, .int v1), (2, .int v2), (3, .int v3), (4, .int v4), (5, .int v5), (7, .int v7)] [.int t1, .int t0] := by
  refine k_iadd B dX13_cost_70 ?_
  refine k_istore (lst' := [(6, .int (t0 + t1)), (0, .ref v0), (1, .int v1), (2, .int v2), (3, .int v3), (4, .int v4), (5, .int v5), (7, .int v7)]) B (by decide) rfl dX13_cost_71 ?_
  refine k_iinc (v := v7 + 1) (lst' := [(7, .int (v7 + 1)), (6, .int (t0 + t1)), (0, .ref v0), (1, .int v1), (2, .int v2), (3, .int v3), (4, .int v4), (5, .int v5)]) B 7 rfl rfl (by decide) rfl dX13_cost_73 ?_
  refine k_goto (tgt := 27) B dX13_cost_76 (by decide) ?_
  refine k_sub [2, 3, 4, 5, 6, 7, 1, 0] rfl ?_
  exact kk
theorem bX13_cost_79 (B : Bd p s m args meth c cX13_cost 14 (wsOf yX13_cost cX13_cost 14 (some .int)) RX13 w (some .int) "cost") {v0 : Nat} {v1 : Int32} {v2 : Int32} {v3 : Int32} {v4 : Int32} {v5 : Int32} {v6 : Int32} {Q : State → Prop} (h1 : kd S v0 = 15) (kk : K p l e rX13_cost s m args below meth c 14 w 0 0 Q (sI (sI (sI (sI S 926 v0 0) 927 v0 0) 929 v0 0) 930 v0 v6) 103 [(0, .ref v0), (1, .int v1), (2, .int v2), (3, .int v3), (4, .int v4), (5, .int v5), (6, .int v6), (7, .int 0)] []) : K p l e rX13_cost s m args below meth c 14 w 0 0 Q S 79 [(0, .ref v0), (1, .int v1), (2, .int v2), (3, .int v3), (4, .int v4), (5, .int v5), (6, .int v6)] [] := by
  refine k_aload_n B 0 rfl rfl dX13_cost_79 ?_
  refine k_iconst (v := 0) B (by decide) dX13_cost_80 ?_
  refine k_putI (f := 926) B 14 30 rfl (by decide) rfl (by decide) rfl rfl (fun w h => in_of (uw_14 w h)) (in_of qfRX13_178) tyX13 tyX13_ok nmX13 rfl (tyX13_ok 30 (by decide)) dX13_cost_81 h1 ?_
  refine k_aload_n B 0 rfl rfl dX13_cost_84 ?_
  refine k_iconst (v := 0) B (by decide) dX13_cost_85 ?_
  refine k_putI (f := 927) B 14 31 rfl (by decide) rfl (by decide) rfl rfl (fun w h => in_of (uw_14 w h)) (in_of qfRX13_181) tyX13 tyX13_ok nmX13 rfl (tyX13_ok 31 (by decide)) dX13_cost_86 h1 ?_
  refine k_aload_n B 0 rfl rfl dX13_cost_89 ?_
  refine k_iconst (v := 0) B (by decide) dX13_cost_90 ?_
  refine k_putI (f := 929) B 14 33 rfl (by decide) rfl (by decide) rfl rfl (fun w h => in_of (uw_14 w h)) (in_of qfRX13_184) tyX13 tyX13_ok nmX13 rfl (tyX13_ok 33 (by decide)) dX13_cost_91 h1 ?_
  refine k_aload_n B 0 rfl rfl dX13_cost_94 ?_
  refine k_iload B 6 rfl dX13_cost_95 ?_
  refine k_putI (f := 930) B 14 34 rfl (by decide) rfl (by decide) rfl rfl (fun w h => in_of (uw_14 w h)) (in_of qfRX13_187) tyX13 tyX13_ok nmX13 rfl (tyX13_ok 34 (by decide)) dX13_cost_97 h1 ?_
  refine k_iconst (v := 0) B (by decide) dX13_cost_100 ?_
  refine k_istore (lst' := [(7, .int 0), (0, .ref v0), (1, .int v1), (2, .int v2), (3, .int v3), (4, .int v4), (5, .int v5), (6, .int v6)]) B (by decide) rfl dX13_cost_101 ?_
  refine k_sub [1, 2, 3, 4, 5, 6, 7, 0] rfl ?_
  exact kk
theorem bX13_cost_103 (B : Bd p s m args meth c cX13_cost 14 (wsOf yX13_cost cX13_cost 14 (some .int)) RX13 w (some .int) "cost") {v0 : Nat} {v1 : Int32} {v2 : Int32} {v3 : Int32} {v4 : Int32} {v5 : Int32} {v6 : Int32} {v7 : Int32} {Q : State → Prop} (h1 : kd S v0 = 15) (kt : (gI S 922 v0) < v7 → K p l e rX13_cost s m args below meth c 14 w 0 0 Q S 400 [(0, .ref v0), (1, .int v1), (2, .int v2)] []) (kf : ¬ (gI S 922 v0) < v7 → K p l e rX13_cost s m args below meth c 14 w 0 0 Q S 112 [(0, .ref v0), (1, .int v1), (2, .int v2), (3, .int v3), (4, .int v4), (5, .int v5), (6, .int v6), (7, .int v7)] []) : K p l e rX13_cost s m args below meth c 14 w 0 0 Q S 103 [(0, .ref v0), (1, .int v1), (2, .int v2), (3, .int v3), (4, .int v4), (5, .int v5), (6, .int v6), (7, .int v7)] [] := by
  refine k_iload B 7 rfl dX13_cost_103 ?_
  refine k_aload_n B 0 rfl rfl dX13_cost_105 ?_
  refine k_getI (f := 922) (v := gI S 922 v0) B 14 26 rfl (by decide) rfl (by decide) rfl rfl (fun w h => in_of (uw_14 w h)) (in_of qfRX13_172) dX13_cost_106 h1 rfl ?_
  refine k_icmp_gt (tgt := 400) B dX13_cost_109 (by decide) (fun c => ?_) (fun c => ?_)
  · refine k_sub [0, 1, 2] rfl ?_
    exact kt c
  · exact kf c
theorem bX13_cost_112 (B : Bd p s m args meth c cX13_cost 14 (wsOf yX13_cost cX13_cost 14 (some .int)) RX13 w (some .int) "cost") {v0 : Nat} {v1 : Int32} {v2 : Int32} {v3 : Int32} {v4 : Int32} {v5 : Int32} {v6 : Int32} {v7 : Int32} {Q : State → Prop} (h1 : kd S v0 = 15) (kt : ¬ v7 = (gI S 922 v0) → K p l e rX13_cost s m args below meth c 14 w 0 0 Q S 125 [(0, .ref v0), (1, .int v1), (2, .int v2), (3, .int v3), (4, .int v4), (5, .int v5), (6, .int v6), (7, .int v7)] []) (kf : v7 = (gI S 922 v0) → K p l e rX13_cost s m args below meth c 14 w 0 0 Q S 121 [(0, .ref v0), (1, .int v1), (2, .int v2), (3, .int v3), (4, .int v4), (5, .int v5), (6, .int v6), (7, .int v7)] []) : K p l e rX13_cost s m args below meth c 14 w 0 0 Q S 112 [(0, .ref v0), (1, .int v1), (2, .int v2), (3, .int v3), (4, .int v4), (5, .int v5), (6, .int v6), (7, .int v7)] [] := by
  refine k_iload B 7 rfl dX13_cost_112 ?_
  refine k_aload_n B 0 rfl rfl dX13_cost_114 ?_
  refine k_getI (f := 922) (v := gI S 922 v0) B 14 26 rfl (by decide) rfl (by decide) rfl rfl (fun w h => in_of (uw_14 w h)) (in_of qfRX13_172) dX13_cost_115 h1 rfl ?_
  refine k_icmp_ne (tgt := 125) B dX13_cost_118 (by decide) (fun c => ?_) (fun c => ?_)
  · exact kt c
  · exact kf c
theorem bX13_cost_121 (B : Bd p s m args meth c cX13_cost 14 (wsOf yX13_cost cX13_cost 14 (some .int)) RX13 w (some .int) "cost") {v0 : Nat} {v1 : Int32} {v2 : Int32} {v3 : Int32} {v4 : Int32} {v5 : Int32} {v6 : Int32} {v7 : Int32} {Q : State → Prop}  (kk : K p l e rX13_cost s m args below meth c 14 w 0 0 Q S 137 [(0, .ref v0), (1, .int v1), (2, .int v2), (3, .int v3), (4, .int v4), (5, .int v5), (6, .int v6), (7, .int v7)] [.int (-1)]) : K p l e rX13_cost s m args below meth c 14 w 0 0 Q S 121 [(0, .ref v0), (1, .int v1), (2, .int v2), (3, .int v3), (4, .int v4), (5, .int v5), (6, .int v6), (7, .int v7)] [] := by
  refine k_iconst (v := (-1)) B (by decide) dX13_cost_121 ?_
  refine k_goto (tgt := 137) B dX13_cost_122 (by decide) ?_
  exact kk
theorem bX13_cost_125 (B : Bd p s m args meth c cX13_cost 14 (wsOf yX13_cost cX13_cost 14 (some .int)) RX13 w (some .int) "cost") {v0 : Nat} {v1 : Int32} {v2 : Int32} {v3 : Int32} {v4 : Int32} {v5 : Int32} {v6 : Int32} {v7 : Int32} {x1 : Nat} {x2 : Nat} {Q : State → Prop} (h1 : kd S v0 = 15) (h2 : gP S 916 v0 = some x1) (h3 : gP S 921 v0 = some x2) (h4 : kd S x2 = 21) (h5 : vp_in v7 (ln S x2)) (h6 : kd S x1 = 21) (h7 : vp_in ((rI S x2) v7.toNatClampNeg) (ln S x1)) (kk : K p l e rX13_cost s m args below meth c 14 w 0 0 Q S 137 [(0, .ref v0), (1, .int v1), (2, .int v2), (3, .int v3), (4, .int v4), (5, .int v5), (6, .int v6), (7, .int v7)] [.int ((rI S x1) ((rI S x2) v7.toNatClampNeg).toNatClampNeg)]) : K p l e rX13_cost s m args below meth c 14 w 0 0 Q S 125 [(0, .ref v0), (1, .int v1), (2, .int v2), (3, .int v3), (4, .int v4), (5, .int v5), (6, .int v6), (7, .int v7)] [] := by
  refine k_aload_n B 0 rfl rfl dX13_cost_125 ?_
  refine k_getP (f := 916) (r := gP S 916 v0) B 14 20 rfl (by decide) rfl (by decide) rfl rfl (fun w h => in_of (uw_14 w h)) (in_of qfRX13_56) dX13_cost_126 h1 rfl ?_
  rw [h2]; change K _ _ _ _ _ _ _ _ _ _ _ _ _ _ _ _ _ _ (.ref x1 :: _)
  refine k_aload_n B 0 rfl rfl dX13_cost_129 ?_
  refine k_getP (f := 921) (r := gP S 921 v0) B 14 25 rfl (by decide) rfl (by decide) rfl rfl (fun w h => in_of (uw_14 w h)) (in_of qfRX13_77) dX13_cost_130 h1 rfl ?_
  rw [h3]; change K _ _ _ _ _ _ _ _ _ _ _ _ _ _ _ _ _ _ (.ref x2 :: _)
  refine k_iload B 7 rfl dX13_cost_133 ?_
  refine k_iald (v := (rI S x2) v7.toNatClampNeg) B dX13_cost_135 h4 h5 rfl ?_
  refine k_iald (v := (rI S x1) ((rI S x2) v7.toNatClampNeg).toNatClampNeg) B dX13_cost_136 h6 h7 rfl ?_
  exact kk
theorem bX13_cost_137 (B : Bd p s m args meth c cX13_cost 14 (wsOf yX13_cost cX13_cost 14 (some .int)) RX13 w (some .int) "cost") {v0 : Nat} {v1 : Int32} {v2 : Int32} {v3 : Int32} {v4 : Int32} {v5 : Int32} {v6 : Int32} {v7 : Int32} {t0 : Int32} {Q : State → Prop}  (kt : ¬ t0 = (-1) → K p l e rX13_cost s m args below meth c 14 w 0 0 Q S 152 [(0, .ref v0), (1, .int v1), (2, .int v2), (3, .int v3), (4, .int v4), (5, .int v5), (6, .int v6), (7, .int v7), (8, .int t0)] []) (kf : t0 = (-1) → K p l e rX13_cost s m args below meth c 14 w 0 0 Q S 145 [(0, .ref v0), (1, .int v1), (2, .int v2), (3, .int v3), (4, .int v4), (5, .int v5), (6, .int v6), (7, .int v7), (8, .int t0)] []) : K p l e rX13_cost s m args below meth c 14 w 0 0 Q S 137 [(0, .ref v0), (1, .int v1), (2, .int v2), (3, .int v3), (4, .int v4), (5, .int v5), (6, .int v6), (7, .int v7)] [.int t0] := by
  refine k_istore (lst' := [(8, .int t0), (0, .ref v0), (1, .int v1), (2, .int v2), (3, .int v3), (4, .int v4), (5, .int v5), (6, .int v6), (7, .int v7)]) B (by decide) rfl dX13_cost_137 ?_
  refine k_iload B 0 rfl dX13_cost_139 ?_
  refine k_iconst (v := (-1)) B (by decide) dX13_cost_141 ?_
  refine k_icmp_ne (tgt := 152) B dX13_cost_142 (by decide) (fun c => ?_) (fun c => ?_)
  · refine k_sub [1, 2, 3, 4, 5, 6, 7, 8, 0] rfl ?_
    exact kt c
  · refine k_sub [1, 2, 3, 4, 5, 6, 7, 8, 0] rfl ?_
    exact kf c
theorem bX13_cost_145 (B : Bd p s m args meth c cX13_cost 14 (wsOf yX13_cost cX13_cost 14 (some .int)) RX13 w (some .int) "cost") {v0 : Nat} {v1 : Int32} {v2 : Int32} {v3 : Int32} {v4 : Int32} {v5 : Int32} {v6 : Int32} {v7 : Int32} {v8 : Int32} {Q : State → Prop} (h1 : kd S v0 = 15) (kk : K p l e rX13_cost s m args below meth c 14 w 0 0 Q S 159 [(0, .ref v0), (1, .int v1), (2, .int v2), (3, .int v3), (4, .int v4), (5, .int v5), (6, .int v6), (7, .int v7), (8, .int v8)] [.int (gI S 898 v0)]) : K p l e rX13_cost s m args below meth c 14 w 0 0 Q S 145 [(0, .ref v0), (1, .int v1), (2, .int v2), (3, .int v3), (4, .int v4), (5, .int v5), (6, .int v6), (7, .int v7), (8, .int v8)] [] := by
  refine k_aload_n B 0 rfl rfl dX13_cost_145 ?_
  refine k_getI (f := 898) (v := gI S 898 v0) B 14 2 rfl (by decide) rfl (by decide) rfl rfl (fun w h => in_of (uw_14 w h)) (in_of qfRX13_13) dX13_cost_146 h1 rfl ?_
  refine k_goto (tgt := 159) B dX13_cost_149 (by decide) ?_
  exact kk
theorem bX13_cost_152 (B : Bd p s m args meth c cX13_cost 14 (wsOf yX13_cost cX13_cost 14 (some .int)) RX13 w (some .int) "cost") {v0 : Nat} {v1 : Int32} {v2 : Int32} {v3 : Int32} {v4 : Int32} {v5 : Int32} {v6 : Int32} {v7 : Int32} {v8 : Int32} {x1 : Nat} {Q : State → Prop} (h1 : kd S v0 = 15) (h2 : gP S 901 v0 = some x1) (h3 : kd S x1 = 21) (h4 : vp_in v8 (ln S x1)) (kk : K p l e rX13_cost s m args below meth c 14 w 0 0 Q S 159 [(0, .ref v0), (1, .int v1), (2, .int v2), (3, .int v3), (4, .int v4), (5, .int v5), (6, .int v6), (7, .int v7), (8, .int v8)] [.int ((rI S x1) v8.toNatClampNeg)]) : K p l e rX13_cost s m args below meth c 14 w 0 0 Q S 152 [(0, .ref v0), (1, .int v1), (2, .int v2), (3, .int v3), (4, .int v4), (5, .int v5), (6, .int v6), (7, .int v7), (8, .int v8)] [] := by
  refine k_aload_n B 0 rfl rfl dX13_cost_152 ?_
  refine k_getP (f := 901) (r := gP S 901 v0) B 14 5 rfl (by decide) rfl (by decide) rfl rfl (fun w h => in_of (uw_14 w h)) (in_of qfRX13_20) dX13_cost_153 h1 rfl ?_
  rw [h2]; change K _ _ _ _ _ _ _ _ _ _ _ _ _ _ _ _ _ _ (.ref x1 :: _)
  refine k_iload B 8 rfl dX13_cost_156 ?_
  refine k_iald (v := (rI S x1) v8.toNatClampNeg) B dX13_cost_158 h3 h4 rfl ?_
  exact kk
theorem bX13_cost_159 (B : Bd p s m args meth c cX13_cost 14 (wsOf yX13_cost cX13_cost 14 (some .int)) RX13 w (some .int) "cost") {v0 : Nat} {v1 : Int32} {v2 : Int32} {v3 : Int32} {v4 : Int32} {v5 : Int32} {v6 : Int32} {v7 : Int32} {v8 : Int32} {t0 : Int32} {Q : State → Prop}  (kt : ¬ v8 = (-1) → K p l e rX13_cost s m args below meth c 14 w 0 0 Q S 174 [(0, .ref v0), (1, .int v1), (2, .int v2), (3, .int v3), (4, .int v4), (5, .int v5), (6, .int v6), (7, .int v7), (8, .int v8), (9, .int t0)] []) (kf : v8 = (-1) → K p l e rX13_cost s m args below meth c 14 w 0 0 Q S 167 [(0, .ref v0), (1, .int v1), (2, .int v2), (3, .int v3), (4, .int v4), (5, .int v5), (6, .int v6), (7, .int v7), (8, .int v8), (9, .int t0)] []) : K p l e rX13_cost s m args below meth c 14 w 0 0 Q S 159 [(0, .ref v0), (1, .int v1), (2, .int v2), (3, .int v3), (4, .int v4), (5, .int v5), (6, .int v6), (7, .int v7), (8, .int v8)] [.int t0] := by
  refine k_istore (lst' := [(9, .int t0), (0, .ref v0), (1, .int v1), (2, .int v2), (3, .int v3), (4, .int v4), (5, .int v5), (6, .int v6), (7, .int v7), (8, .int v8)]) B (by decide) rfl dX13_cost_159 ?_
  refine k_iload B 9 rfl dX13_cost_161 ?_
  refine k_iconst (v := (-1)) B (by decide) dX13_cost_163 ?_
  refine k_icmp_ne (tgt := 174) B dX13_cost_164 (by decide) (fun c => ?_) (fun c => ?_)
  · refine k_sub [1, 2, 3, 4, 5, 6, 7, 8, 9, 0] rfl ?_
    exact kt c
  · refine k_sub [1, 2, 3, 4, 5, 6, 7, 8, 9, 0] rfl ?_
    exact kf c
theorem bX13_cost_167 (B : Bd p s m args meth c cX13_cost 14 (wsOf yX13_cost cX13_cost 14 (some .int)) RX13 w (some .int) "cost") {v0 : Nat} {v1 : Int32} {v2 : Int32} {v3 : Int32} {v4 : Int32} {v5 : Int32} {v6 : Int32} {v7 : Int32} {v8 : Int32} {v9 : Int32} {Q : State → Prop} (h1 : kd S v0 = 15) (kk : K p l e rX13_cost s m args below meth c 14 w 0 0 Q S 181 [(0, .ref v0), (1, .int v1), (2, .int v2), (3, .int v3), (4, .int v4), (5, .int v5), (6, .int v6), (7, .int v7), (8, .int v8), (9, .int v9)] [.int (gI S 899 v0)]) : K p l e rX13_cost s m args below meth c 14 w 0 0 Q S 167 [(0, .ref v0), (1, .int v1), (2, .int v2), (3, .int v3), (4, .int v4), (5, .int v5), (6, .int v6), (7, .int v7), (8, .int v8), (9, .int v9)] [] := by
  refine k_aload_n B 0 rfl rfl dX13_cost_167 ?_
  refine k_getI (f := 899) (v := gI S 899 v0) B 14 3 rfl (by decide) rfl (by decide) rfl rfl (fun w h => in_of (uw_14 w h)) (in_of qfRX13_17) dX13_cost_168 h1 rfl ?_
  refine k_goto (tgt := 181) B dX13_cost_171 (by decide) ?_
  exact kk
theorem bX13_cost_174 (B : Bd p s m args meth c cX13_cost 14 (wsOf yX13_cost cX13_cost 14 (some .int)) RX13 w (some .int) "cost") {v0 : Nat} {v1 : Int32} {v2 : Int32} {v3 : Int32} {v4 : Int32} {v5 : Int32} {v6 : Int32} {v7 : Int32} {v8 : Int32} {v9 : Int32} {x1 : Nat} {Q : State → Prop} (h1 : kd S v0 = 15) (h2 : gP S 902 v0 = some x1) (h3 : kd S x1 = 21) (h4 : vp_in v8 (ln S x1)) (kk : K p l e rX13_cost s m args below meth c 14 w 0 0 Q S 181 [(0, .ref v0), (1, .int v1), (2, .int v2), (3, .int v3), (4, .int v4), (5, .int v5), (6, .int v6), (7, .int v7), (8, .int v8), (9, .int v9)] [.int ((rI S x1) v8.toNatClampNeg)]) : K p l e rX13_cost s m args below meth c 14 w 0 0 Q S 174 [(0, .ref v0), (1, .int v1), (2, .int v2), (3, .int v3), (4, .int v4), (5, .int v5), (6, .int v6), (7, .int v7), (8, .int v8), (9, .int v9)] [] := by
  refine k_aload_n B 0 rfl rfl dX13_cost_174 ?_
  refine k_getP (f := 902) (r := gP S 902 v0) B 14 6 rfl (by decide) rfl (by decide) rfl rfl (fun w h => in_of (uw_14 w h)) (in_of qfRX13_23) dX13_cost_175 h1 rfl ?_
  rw [h2]; change K _ _ _ _ _ _ _ _ _ _ _ _ _ _ _ _ _ _ (.ref x1 :: _)
  refine k_iload B 8 rfl dX13_cost_178 ?_
  refine k_iald (v := (rI S x1) v8.toNatClampNeg) B dX13_cost_180 h3 h4 rfl ?_
  exact kk
theorem bX13_cost_181 (B : Bd p s m args meth c cX13_cost 14 (wsOf yX13_cost cX13_cost 14 (some .int)) RX13 w (some .int) "cost") {v0 : Nat} {v1 : Int32} {v2 : Int32} {v3 : Int32} {v4 : Int32} {v5 : Int32} {v6 : Int32} {v7 : Int32} {v8 : Int32} {v9 : Int32} {t0 : Int32} {post : Int32 → St → Prop} {Q : State → Prop} (hc : ConI l yX13_apart (wsOf yX13_apart cX13_apart 4 (some .int)) rX13_apart w S [.int v4, .int v5, .int v9, .int t0] post) (kk : ∀ (r : Int32) (S' : St), post r S' → K p l e rX13_cost s m args below meth c 14 w 0 0 Q S' 194 [(0, .ref v0), (1, .int v1), (2, .int v2), (3, .int v3), (6, .int v6), (7, .int v7), (8, .int v8), (9, .int v9), (10, .int t0)] [.int r]) : K p l e rX13_cost s m args below meth c 14 w 0 0 Q S 181 [(0, .ref v0), (1, .int v1), (2, .int v2), (3, .int v3), (4, .int v4), (5, .int v5), (6, .int v6), (7, .int v7), (8, .int v8), (9, .int v9)] [.int t0] := by
  refine k_istore (lst' := [(10, .int t0), (0, .ref v0), (1, .int v1), (2, .int v2), (3, .int v3), (4, .int v4), (5, .int v5), (6, .int v6), (7, .int v7), (8, .int v8), (9, .int v9)]) B (by decide) rfl dX13_cost_181 ?_
  refine k_iload B 5 rfl dX13_cost_183 ?_
  refine k_iload B 6 rfl dX13_cost_185 ?_
  refine k_iload B 10 rfl dX13_cost_187 ?_
  refine k_iload B 0 rfl dX13_cost_189 ?_
  refine callS_I (st := []) B [.int v4, .int v5, .int v9, .int t0] (hc) (va_cwS 4 B.1.2.2.2.2 (gS qlRX13_190 qsX13_apart qzRX13 qcX13_apart) rfl rfl rfl (by decide +kernel) ⟨Nat.le_of_ble_eq_true rfl, Nat.le_of_ble_eq_true rfl⟩) rfl (Nat.le_of_ble_eq_true rfl) rfl dX13_cost_191 ⟨Nat.le_of_ble_eq_true rfl, Nat.le_of_ble_eq_true rfl⟩ (fun r S' hp => ?_)
  refine k_sub [1, 2, 3, 4, 7, 8, 9, 10, 0] rfl ?_
  exact kk r S' hp
theorem bX13_cost_194 (B : Bd p s m args meth c cX13_cost 14 (wsOf yX13_cost cX13_cost 14 (some .int)) RX13 w (some .int) "cost") {v0 : Nat} {v1 : Int32} {v2 : Int32} {v3 : Int32} {v6 : Int32} {v7 : Int32} {v8 : Int32} {v9 : Int32} {v10 : Int32} {t0 : Int32} {post : Int32 → St → Prop} {Q : State → Prop} (hc : ConI l yX13_minutes (wsOf yX13_minutes cX13_minutes 3 (some .int)) rX13_minutes w S [.ref v0, .int t0, .int v2] post) (h1 : kd S v0 = 15) (kk : ∀ (r : Int32) (S' : St), post r S' → K p l e rX13_cost s m args below meth c 14 w 0 0 Q S' 206 [(0, .ref v0), (1, .int v1), (2, .int v2), (3, .int v3), (6, .int v6), (7, .int v7), (8, .int v8), (9, .int v9), (10, .int v10), (11, .int t0)] [.int r, .int (v2 - v3)]) : K p l e rX13_cost s m args below meth c 14 w 0 0 Q S 194 [(0, .ref v0), (1, .int v1), (2, .int v2), (3, .int v3), (6, .int v6), (7, .int v7), (8, .int v8), (9, .int v9), (10, .int v10)] [.int t0] := by
  refine k_istore (lst' := [(11, .int t0), (0, .ref v0), (1, .int v1), (2, .int v2), (3, .int v3), (6, .int v6), (7, .int v7), (8, .int v8), (9, .int v9), (10, .int v10)]) B (by decide) rfl dX13_cost_194 ?_
  refine k_iload_n B 3 rfl rfl dX13_cost_196 ?_
  refine k_iload_n B 4 rfl rfl dX13_cost_197 ?_
  refine k_isub B dX13_cost_198 ?_
  refine k_aload_n B 1 rfl rfl dX13_cost_199 ?_
  refine k_iload B 0 rfl dX13_cost_200 ?_
  refine k_iload_n B 3 rfl rfl dX13_cost_202 ?_
  refine callV_I (st := [.int (v2 - v3)]) B [.int t0, .int v2] (hc) (cwV 2 B.1.2.2.2.2 (gV qlRX13_194 qiX13_minutes qeX13_minutes qzRX13 qcX13_minutes) rfl rfl rfl (by decide +kernel) ⟨Nat.le_of_ble_eq_true rfl, Nat.le_of_ble_eq_true rfl⟩) rfl rfl (by decide) h1 (Nat.le_of_ble_eq_true rfl) rfl dX13_cost_203 ⟨Nat.le_of_ble_eq_true rfl, Nat.le_of_ble_eq_true rfl⟩ (fun r S' hp => ?_)
  refine k_sub [1, 2, 3, 4, 5, 6, 7, 8, 9, 0] rfl ?_
  exact kk r S' hp
theorem bX13_cost_206 (B : Bd p s m args meth c cX13_cost 14 (wsOf yX13_cost cX13_cost 14 (some .int)) RX13 w (some .int) "cost") {v0 : Nat} {v1 : Int32} {v2 : Int32} {v3 : Int32} {v6 : Int32} {v7 : Int32} {v8 : Int32} {v9 : Int32} {v10 : Int32} {v11 : Int32} {t0 : Int32} {t1 : Int32} {Q : State → Prop}  (kt : (t0 + t1) ≤ 240 → K p l e rX13_cost s m args below meth c 14 w 0 0 Q S 228 [(0, .ref v0), (1, .int v1), (2, .int v2), (3, .int v3), (6, .int v6), (7, .int v7), (8, .int v8), (9, .int v9), (10, .int v10), (11, .int v11)] []) (kf : ¬ (t0 + t1) ≤ 240 → K p l e rX13_cost s m args below meth c 14 w 0 0 Q S 213 [(0, .ref v0), (1, .int v1), (2, .int v2), (6, .int v6), (7, .int v7), (8, .int v8), (9, .int v9), (10, .int v10), (11, .int v11)] []) : K p l e rX13_cost s m args below meth c 14 w 0 0 Q S 206 [(0, .ref v0), (1, .int v1), (2, .int v2), (3, .int v3), (6, .int v6), (7, .int v7), (8, .int v8), (9, .int v9), (10, .int v10), (11, .int v11)] [.int t1, .int t0] := by
  refine k_iadd B dX13_cost_206 ?_
  refine k_sipush (v := 240) B (by decide) dX13_cost_207 ?_
  refine k_icmp_le (tgt := 228) B dX13_cost_210 (by decide) (fun c => ?_) (fun c => ?_)
  · exact kt c
  · refine k_sub [0, 1, 2, 4, 5, 6, 7, 8, 9] rfl ?_
    exact kf c
theorem bX13_cost_213 (B : Bd p s m args meth c cX13_cost 14 (wsOf yX13_cost cX13_cost 14 (some .int)) RX13 w (some .int) "cost") {v0 : Nat} {v1 : Int32} {v2 : Int32} {v6 : Int32} {v7 : Int32} {v8 : Int32} {v9 : Int32} {v10 : Int32} {v11 : Int32} {Q : State → Prop} (h1 : kd S v0 = 15) (kk : K p l e rX13_cost s m args below meth c 14 w 0 0 Q (sI S 929 v0 ((gI S 929 v0) + 1)) 228 [(0, .ref v0), (1, .int v1), (2, .int (v2 + 30)), (3, .int (v2 + 30)), (6, .int v6), (7, .int v7), (8, .int v8), (9, .int v9), (10, .int v10), (11, .int v11)] []) : K p l e rX13_cost s m args below meth c 14 w 0 0 Q S 213 [(0, .ref v0), (1, .int v1), (2, .int v2), (6, .int v6), (7, .int v7), (8, .int v8), (9, .int v9), (10, .int v10), (11, .int v11)] [] := by
  refine k_iinc (v := v2 + 30) (lst' := [(2, .int (v2 + 30)), (0, .ref v0), (1, .int v1), (6, .int v6), (7, .int v7), (8, .int v8), (9, .int v9), (10, .int v10), (11, .int v11)]) B 2 rfl rfl (by decide) rfl dX13_cost_213 ?_
  refine k_iload_n B 0 rfl rfl dX13_cost_216 ?_
  refine k_istore_n (lst' := [(3, .int (v2 + 30)), (2, .int (v2 + 30)), (0, .ref v0), (1, .int v1), (6, .int v6), (7, .int v7), (8, .int v8), (9, .int v9), (10, .int v10), (11, .int v11)]) B rfl (by decide) rfl dX13_cost_217 ?_
  refine k_aload_n B 2 rfl rfl dX13_cost_218 ?_
  refine k_dup B rfl dX13_cost_219 ?_
  refine k_getI (f := 929) (v := gI S 929 v0) B 14 33 rfl (by decide) rfl (by decide) rfl rfl (fun w h => in_of (uw_14 w h)) (in_of qfRX13_184) dX13_cost_220 h1 rfl ?_
  refine k_iconst (v := 1) B (by decide) dX13_cost_223 ?_
  refine k_iadd B dX13_cost_224 ?_
  refine k_putI (f := 929) B 14 33 rfl (by decide) rfl (by decide) rfl rfl (fun w h => in_of (uw_14 w h)) (in_of qfRX13_184) tyX13 tyX13_ok nmX13 rfl (tyX13_ok 33 (by decide)) dX13_cost_225 h1 ?_
  refine k_sub [2, 3, 1, 0, 4, 5, 6, 7, 8, 9] rfl ?_
  exact kk
theorem bX13_cost_228 (B : Bd p s m args meth c cX13_cost 14 (wsOf yX13_cost cX13_cost 14 (some .int)) RX13 w (some .int) "cost") {v0 : Nat} {v1 : Int32} {v2 : Int32} {v3 : Int32} {v6 : Int32} {v7 : Int32} {v8 : Int32} {v9 : Int32} {v10 : Int32} {v11 : Int32} {post : Int32 → St → Prop} {Q : State → Prop} (hc : ConI l yX13_minutes (wsOf yX13_minutes cX13_minutes 3 (some .int)) rX13_minutes w S [.ref v0, .int v11, .int v2] post) (h1 : kd S v0 = 15) (kk : ∀ (r : Int32) (S' : St), post r S' → K p l e rX13_cost s m args below meth c 14 w 0 0 Q S' 235 [(0, .ref v0), (1, .int v1), (2, .int v2), (3, .int v3), (6, .int v6), (7, .int v7), (8, .int v8), (9, .int v9), (10, .int v10)] [.int r]) : K p l e rX13_cost s m args below meth c 14 w 0 0 Q S 228 [(0, .ref v0), (1, .int v1), (2, .int v2), (3, .int v3), (6, .int v6), (7, .int v7), (8, .int v8), (9, .int v9), (10, .int v10), (11, .int v11)] [] := by
  refine k_aload_n B 0 rfl rfl dX13_cost_228 ?_
  refine k_iload B 9 rfl dX13_cost_229 ?_
  refine k_iload_n B 2 rfl rfl dX13_cost_231 ?_
  refine callV_I (st := []) B [.int v11, .int v2] (hc) (cwV 2 B.1.2.2.2.2 (gV qlRX13_194 qiX13_minutes qeX13_minutes qzRX13 qcX13_minutes) rfl rfl rfl (by decide +kernel) ⟨Nat.le_of_ble_eq_true rfl, Nat.le_of_ble_eq_true rfl⟩) rfl rfl (by decide) h1 (Nat.le_of_ble_eq_true rfl) rfl dX13_cost_232 ⟨Nat.le_of_ble_eq_true rfl, Nat.le_of_ble_eq_true rfl⟩ (fun r S' hp => ?_)
  refine k_sub [0, 1, 2, 3, 4, 5, 6, 7, 8] rfl ?_
  exact kk r S' hp
theorem bX13_cost_235 (B : Bd p s m args meth c cX13_cost 14 (wsOf yX13_cost cX13_cost 14 (some .int)) RX13 w (some .int) "cost") {v0 : Nat} {v1 : Int32} {v2 : Int32} {v3 : Int32} {v6 : Int32} {v7 : Int32} {v8 : Int32} {v9 : Int32} {v10 : Int32} {t0 : Int32} {Q : State → Prop} (h1 : kd S v0 = 15) (kt : ¬ v8 = (-1) → K p l e rX13_cost s m args below meth c 14 w 0 0 Q (sI S 926 v0 ((gI S 926 v0) + t0)) 270 [(0, .ref v0), (1, .int v1), (2, .int (v2 + t0)), (3, .int v3), (4, .int v9), (5, .int v10), (6, .int v6), (7, .int v7)] []) (kf : v8 = (-1) → K p l e rX13_cost s m args below meth c 14 w 0 0 Q (sI S 926 v0 ((gI S 926 v0) + t0)) 267 [(0, .ref v0), (1, .int v1), (2, .int (v2 + t0))] []) : K p l e rX13_cost s m args below meth c 14 w 0 0 Q S 235 [(0, .ref v0), (1, .int v1), (2, .int v2), (3, .int v3), (6, .int v6), (7, .int v7), (8, .int v8), (9, .int v9), (10, .int v10)] [.int t0] := by
  refine k_istore (lst' := [(12, .int t0), (0, .ref v0), (1, .int v1), (2, .int v2), (3, .int v3), (6, .int v6), (7, .int v7), (8, .int v8), (9, .int v9), (10, .int v10)]) B (by decide) rfl dX13_cost_235 ?_
  refine k_aload_n B 1 rfl rfl dX13_cost_237 ?_
  refine k_dup B rfl dX13_cost_238 ?_
  refine k_getI (f := 926) (v := gI S 926 v0) B 14 30 rfl (by decide) rfl (by decide) rfl rfl (fun w h => in_of (uw_14 w h)) (in_of qfRX13_178) dX13_cost_239 h1 rfl ?_
  refine k_iload B 0 rfl dX13_cost_242 ?_
  refine k_iadd B dX13_cost_244 ?_
  refine k_putI (f := 926) B 14 30 rfl (by decide) rfl (by decide) rfl rfl (fun w h => in_of (uw_14 w h)) (in_of qfRX13_178) tyX13 tyX13_ok nmX13 rfl (tyX13_ok 30 (by decide)) dX13_cost_245 h1 ?_
  refine k_iload_n B 3 rfl rfl dX13_cost_248 ?_
  refine k_iload B 0 rfl dX13_cost_249 ?_
  refine k_iadd B dX13_cost_251 ?_
  refine k_istore_n (lst' := [(2, .int (v2 + t0)), (12, .int t0), (0, .ref v0), (1, .int v1), (3, .int v3), (6, .int v6), (7, .int v7), (8, .int v8), (9, .int v9), (10, .int v10)]) B rfl (by decide) rfl dX13_cost_252 ?_
  refine k_iload B 8 rfl dX13_cost_253 ?_
  refine k_istore (lst' := [(4, .int v9), (2, .int (v2 + t0)), (12, .int t0), (0, .ref v0), (1, .int v1), (3, .int v3), (6, .int v6), (7, .int v7), (8, .int v8), (9, .int v9), (10, .int v10)]) B (by decide) rfl dX13_cost_255 ?_
  refine k_iload B 10 rfl dX13_cost_257 ?_
  refine k_istore (lst' := [(5, .int v10), (4, .int v9), (2, .int (v2 + t0)), (12, .int t0), (0, .ref v0), (1, .int v1), (3, .int v3), (6, .int v6), (7, .int v7), (8, .int v8), (9, .int v9), (10, .int v10)]) B (by decide) rfl dX13_cost_259 ?_
  refine k_iload B 9 rfl dX13_cost_261 ?_
  refine k_iconst (v := (-1)) B (by decide) dX13_cost_263 ?_
  refine k_icmp_ne (tgt := 270) B dX13_cost_264 (by decide) (fun c => ?_) (fun c => ?_)
  · refine k_sub [4, 5, 2, 6, 1, 0, 7, 8] rfl ?_
    exact kt c
  · refine k_sub [4, 5, 2] rfl ?_
    exact kf c
theorem bX13_cost_267 (B : Bd p s m args meth c cX13_cost 14 (wsOf yX13_cost cX13_cost 14 (some .int)) RX13 w (some .int) "cost") {v0 : Nat} {v1 : Int32} {v2 : Int32} {Q : State → Prop}  (kk : K p l e rX13_cost s m args below meth c 14 w 0 0 Q S 400 [(0, .ref v0), (1, .int v1), (2, .int v2)] []) : K p l e rX13_cost s m args below meth c 14 w 0 0 Q S 267 [(0, .ref v0), (1, .int v1), (2, .int v2)] [] := by
  refine k_goto (tgt := 400) B dX13_cost_267 (by decide) ?_
  exact kk
theorem bX13_cost_270 (B : Bd p s m args meth c cX13_cost 14 (wsOf yX13_cost cX13_cost 14 (some .int)) RX13 w (some .int) "cost") {v0 : Nat} {v1 : Int32} {v2 : Int32} {v3 : Int32} {v4 : Int32} {v5 : Int32} {v6 : Int32} {v7 : Int32} {x1 : Nat} {x2 : Nat} {x3 : Nat} {Q : State → Prop} (h1 : kd S v0 = 15) (h2 : gP S 921 v0 = some x1) (h3 : kd S x1 = 21) (h4 : vp_in v7 (ln S x1)) (h5 : gP S 917 v0 = some x2) (h6 : kd S x2 = 21) (h7 : vp_in ((rI S x1) v7.toNatClampNeg) (ln S x2)) (h8 : gP S 923 v0 = some x3) (h9 : kd S x3 = 21) (h10 : vp_in v7 (ln S x3)) (kk : K p l e rX13_cost s m args below meth c 14 w 0 0 Q (sRI S x3 (va_up (rI S x3) v7.toNatClampNeg (if v2 < ((rI S x2) ((rI S x1) v7.toNatClampNeg).toNatClampNeg) then ((rI S x2) ((rI S x1) v7.toNatClampNeg).toNatClampNeg) else v2))) 299 [(0, .ref v0), (1, .int v1), (2, .int (if v2 < ((rI S x2) ((rI S x1) v7.toNatClampNeg).toNatClampNeg) then ((rI S x2) ((rI S x1) v7.toNatClampNeg).toNatClampNeg) else v2)), (3, .int v3), (4, .int v4), (5, .int v5), (6, .int v6), (7, .int v7), (13, .int ((rI S x1) v7.toNatClampNeg))] []) : K p l e rX13_cost s m args below meth c 14 w 0 0 Q S 270 [(0, .ref v0), (1, .int v1), (2, .int v2), (3, .int v3), (4, .int v4), (5, .int v5), (6, .int v6), (7, .int v7)] [] := by
  refine k_aload_n B 0 rfl rfl dX13_cost_270 ?_
  refine k_getP (f := 921) (r := gP S 921 v0) B 14 25 rfl (by decide) rfl (by decide) rfl rfl (fun w h => in_of (uw_14 w h)) (in_of qfRX13_77) dX13_cost_271 h1 rfl ?_
  rw [h2]; change K _ _ _ _ _ _ _ _ _ _ _ _ _ _ _ _ _ _ (.ref x1 :: _)
  refine k_iload B 7 rfl dX13_cost_274 ?_
  refine k_iald (v := (rI S x1) v7.toNatClampNeg) B dX13_cost_276 h3 h4 rfl ?_
  refine k_istore (lst' := [(13, .int ((rI S x1) v7.toNatClampNeg)), (0, .ref v0), (1, .int v1), (2, .int v2), (3, .int v3), (4, .int v4), (5, .int v5), (6, .int v6), (7, .int v7)]) B (by decide) rfl dX13_cost_277 ?_
  refine k_iload_n B 3 rfl rfl dX13_cost_279 ?_
  refine k_aload_n B 1 rfl rfl dX13_cost_280 ?_
  refine k_getP (f := 917) (r := gP S 917 v0) B 14 21 rfl (by decide) rfl (by decide) rfl rfl (fun w h => in_of (uw_14 w h)) (in_of qfRX13_59) dX13_cost_281 h1 rfl ?_
  rw [h5]; change K _ _ _ _ _ _ _ _ _ _ _ _ _ _ _ _ _ _ (.ref x2 :: _)
  refine k_iload B 0 rfl dX13_cost_284 ?_
  refine k_iald (v := (rI S x2) ((rI S x1) v7.toNatClampNeg).toNatClampNeg) B dX13_cost_286 h6 h7 rfl ?_
  refine k_max B (in_of qlRX13_197) (in_of qs_max) (in_of qz_Math) (in_of qc_max) (Nat.le_of_ble_eq_true rfl) (Nat.le_of_ble_eq_true rfl) (Nat.le_of_ble_eq_true rfl) (Nat.le_of_ble_eq_true rfl) dX13_cost_287 ?_
  refine k_istore_n (lst' := [(2, .int (if v2 < ((rI S x2) ((rI S x1) v7.toNatClampNeg).toNatClampNeg) then ((rI S x2) ((rI S x1) v7.toNatClampNeg).toNatClampNeg) else v2)), (13, .int ((rI S x1) v7.toNatClampNeg)), (0, .ref v0), (1, .int v1), (3, .int v3), (4, .int v4), (5, .int v5), (6, .int v6), (7, .int v7)]) B rfl (by decide) rfl dX13_cost_290 ?_
  refine k_aload_n B 2 rfl rfl dX13_cost_291 ?_
  refine k_getP (f := 923) (r := gP S 923 v0) B 14 27 rfl (by decide) rfl (by decide) rfl rfl (fun w h => in_of (uw_14 w h)) (in_of qfRX13_80) dX13_cost_292 h1 rfl ?_
  rw [h8]; change K _ _ _ _ _ _ _ _ _ _ _ _ _ _ _ _ _ _ (.ref x3 :: _)
  refine k_iload B 8 rfl dX13_cost_295 ?_
  refine k_iload_n B 0 rfl rfl dX13_cost_297 ?_
  refine k_iast (g := rI S x3) (S' := sRI S x3 (va_up (rI S x3) v7.toNatClampNeg (if v2 < ((rI S x2) ((rI S x1) v7.toNatClampNeg).toNatClampNeg) then ((rI S x2) ((rI S x1) v7.toNatClampNeg).toNatClampNeg) else v2))) B dX13_cost_298 h9 h10 rfl rfl ?_
  refine k_sub [2, 3, 0, 4, 5, 6, 7, 8, 1] rfl ?_
  exact kk
theorem bX13_cost_299 (B : Bd p s m args meth c cX13_cost 14 (wsOf yX13_cost cX13_cost 14 (some .int)) RX13 w (some .int) "cost") {v0 : Nat} {v1 : Int32} {v2 : Int32} {v3 : Int32} {v4 : Int32} {v5 : Int32} {v6 : Int32} {v7 : Int32} {v13 : Int32} {x1 : Nat} {x2 : Nat} {Q : State → Prop} (h1 : kd S v0 = 15) (h2 : gP S 924 v0 = some x1) (h3 : gP S 918 v0 = some x2) (h4 : kd S x2 = 21) (h5 : vp_in v13 (ln S x2)) (h6 : kd S x1 = 21) (h7 : vp_in v7 (ln S x1)) (kk : K p l e rX13_cost s m args below meth c 14 w 0 0 Q (sRI S x1 (va_up (rI S x1) v7.toNatClampNeg (if 0 < (v2 - ((rI S x2) v13.toNatClampNeg)) then (v2 - ((rI S x2) v13.toNatClampNeg)) else 0))) 319 [(0, .ref v0), (1, .int v1), (2, .int v2), (3, .int v3), (4, .int v4), (5, .int v5), (6, .int v6), (7, .int v7), (13, .int v13)] []) : K p l e rX13_cost s m args below meth c 14 w 0 0 Q S 299 [(0, .ref v0), (1, .int v1), (2, .int v2), (3, .int v3), (4, .int v4), (5, .int v5), (6, .int v6), (7, .int v7), (13, .int v13)] [] := by
  refine k_aload_n B 0 rfl rfl dX13_cost_299 ?_
  refine k_getP (f := 924) (r := gP S 924 v0) B 14 28 rfl (by decide) rfl (by decide) rfl rfl (fun w h => in_of (uw_14 w h)) (in_of qfRX13_83) dX13_cost_300 h1 rfl ?_
  rw [h2]; change K _ _ _ _ _ _ _ _ _ _ _ _ _ _ _ _ _ _ (.ref x1 :: _)
  refine k_iload B 7 rfl dX13_cost_303 ?_
  refine k_iconst (v := 0) B (by decide) dX13_cost_305 ?_
  refine k_iload_n B 2 rfl rfl dX13_cost_306 ?_
  refine k_aload_n B 0 rfl rfl dX13_cost_307 ?_
  refine k_getP (f := 918) (r := gP S 918 v0) B 14 22 rfl (by decide) rfl (by decide) rfl rfl (fun w h => in_of (uw_14 w h)) (in_of qfRX13_62) dX13_cost_308 h1 rfl ?_
  rw [h3]; change K _ _ _ _ _ _ _ _ _ _ _ _ _ _ _ _ _ _ (.ref x2 :: _)
  refine k_iload B 8 rfl dX13_cost_311 ?_
  refine k_iald (v := (rI S x2) v13.toNatClampNeg) B dX13_cost_313 h4 h5 rfl ?_
  refine k_isub B dX13_cost_314 ?_
  refine k_max B (in_of qlRX13_197) (in_of qs_max) (in_of qz_Math) (in_of qc_max) (Nat.le_of_ble_eq_true rfl) (Nat.le_of_ble_eq_true rfl) (Nat.le_of_ble_eq_true rfl) (Nat.le_of_ble_eq_true rfl) dX13_cost_315 ?_
  refine k_iast (g := rI S x1) (S' := sRI S x1 (va_up (rI S x1) v7.toNatClampNeg (if 0 < (v2 - ((rI S x2) v13.toNatClampNeg)) then (v2 - ((rI S x2) v13.toNatClampNeg)) else 0))) B dX13_cost_318 h6 h7 rfl rfl ?_
  exact kk
theorem bX13_cost_319 (B : Bd p s m args meth c cX13_cost 14 (wsOf yX13_cost cX13_cost 14 (some .int)) RX13 w (some .int) "cost") {v0 : Nat} {v1 : Int32} {v2 : Int32} {v3 : Int32} {v4 : Int32} {v5 : Int32} {v6 : Int32} {v7 : Int32} {v13 : Int32} {x1 : Nat} {x2 : Nat} {Q : State → Prop} (h1 : kd S v0 = 15) (h2 : gP S 924 v0 = some x1) (h3 : kd S x1 = 21) (h4 : vp_in v7 (ln S x1)) (h5 : gP S 914 v0 = some x2) (h6 : kd S x2 = 21) (h7 : vp_in v13 (ln S x2)) (kt : ¬ ((rI S x2) v13.toNatClampNeg) = 2 → K p l e rX13_cost s m args below meth c 14 w 0 0 Q (sI S 927 v0 ((gI S 927 v0) + ((rI S x1) v7.toNatClampNeg))) 358 [(0, .ref v0), (1, .int v1), (2, .int v2), (3, .int v3), (4, .int v4), (5, .int v5), (7, .int v7), (13, .int v13)] [.int v6]) (kf : ((rI S x2) v13.toNatClampNeg) = 2 → K p l e rX13_cost s m args below meth c 14 w 0 0 Q (sI S 927 v0 ((gI S 927 v0) + ((rI S x1) v7.toNatClampNeg))) 348 [(0, .ref v0), (1, .int v1), (2, .int v2), (3, .int v3), (4, .int v4), (5, .int v5), (7, .int v7), (13, .int v13)] [.int v6]) : K p l e rX13_cost s m args below meth c 14 w 0 0 Q S 319 [(0, .ref v0), (1, .int v1), (2, .int v2), (3, .int v3), (4, .int v4), (5, .int v5), (6, .int v6), (7, .int v7), (13, .int v13)] [] := by
  refine k_aload_n B 0 rfl rfl dX13_cost_319 ?_
  refine k_dup B rfl dX13_cost_320 ?_
  refine k_getI (f := 927) (v := gI S 927 v0) B 14 31 rfl (by decide) rfl (by decide) rfl rfl (fun w h => in_of (uw_14 w h)) (in_of qfRX13_181) dX13_cost_321 h1 rfl ?_
  refine k_aload_n B 0 rfl rfl dX13_cost_324 ?_
  refine k_getP (f := 924) (r := gP S 924 v0) B 14 28 rfl (by decide) rfl (by decide) rfl rfl (fun w h => in_of (uw_14 w h)) (in_of qfRX13_83) dX13_cost_325 h1 rfl ?_
  rw [h2]; change K _ _ _ _ _ _ _ _ _ _ _ _ _ _ _ _ _ _ (.ref x1 :: _)
  refine k_iload B 7 rfl dX13_cost_328 ?_
  refine k_iald (v := (rI S x1) v7.toNatClampNeg) B dX13_cost_330 h3 h4 rfl ?_
  refine k_iadd B dX13_cost_331 ?_
  refine k_putI (f := 927) B 14 31 rfl (by decide) rfl (by decide) rfl rfl (fun w h => in_of (uw_14 w h)) (in_of qfRX13_181) tyX13 tyX13_ok nmX13 rfl (tyX13_ok 31 (by decide)) dX13_cost_332 h1 ?_
  refine k_iload B 6 rfl dX13_cost_335 ?_
  refine k_aload_n B 0 rfl rfl dX13_cost_337 ?_
  refine k_getP (f := 914) (r := gP S 914 v0) B 14 18 rfl (by decide) rfl (by decide) rfl rfl (fun w h => in_of (uw_14 w h)) (in_of qfRX13_50) dX13_cost_338 h1 rfl ?_
  rw [h5]; change K _ _ _ _ _ _ _ _ _ _ _ _ _ _ _ _ _ _ (.ref x2 :: _)
  refine k_iload B 8 rfl dX13_cost_341 ?_
  refine k_iald (v := (rI S x2) v13.toNatClampNeg) B dX13_cost_343 h6 h7 rfl ?_
  refine k_iconst (v := 2) B (by decide) dX13_cost_344 ?_
  refine k_icmp_ne (tgt := 358) B dX13_cost_345 (by decide) (fun c => ?_) (fun c => ?_)
  · refine k_sub [0, 1, 2, 3, 4, 5, 7, 8] rfl ?_
    exact kt c
  · refine k_sub [0, 1, 2, 3, 4, 5, 7, 8] rfl ?_
    exact kf c
theorem bX13_cost_348 (B : Bd p s m args meth c cX13_cost 14 (wsOf yX13_cost cX13_cost 14 (some .int)) RX13 w (some .int) "cost") {v0 : Nat} {v1 : Int32} {v2 : Int32} {v3 : Int32} {v4 : Int32} {v5 : Int32} {v7 : Int32} {v13 : Int32} {t0 : Int32} {x1 : Nat} {Q : State → Prop} (h1 : kd S v0 = 15) (h2 : gP S 915 v0 = some x1) (h3 : kd S x1 = 21) (h4 : vp_in v13 (ln S x1)) (kk : K p l e rX13_cost s m args below meth c 14 w 0 0 Q S 366 [(0, .ref v0), (1, .int v1), (2, .int v2), (3, .int v3), (4, .int v4), (5, .int v5), (7, .int v7)] [.int ((rI S x1) v13.toNatClampNeg), .int t0]) : K p l e rX13_cost s m args below meth c 14 w 0 0 Q S 348 [(0, .ref v0), (1, .int v1), (2, .int v2), (3, .int v3), (4, .int v4), (5, .int v5), (7, .int v7), (13, .int v13)] [.int t0] := by
  refine k_aload_n B 0 rfl rfl dX13_cost_348 ?_
  refine k_getP (f := 915) (r := gP S 915 v0) B 14 19 rfl (by decide) rfl (by decide) rfl rfl (fun w h => in_of (uw_14 w h)) (in_of qfRX13_53) dX13_cost_349 h1 rfl ?_
  rw [h2]; change K _ _ _ _ _ _ _ _ _ _ _ _ _ _ _ _ _ _ (.ref x1 :: _)
  refine k_iload B 7 rfl dX13_cost_352 ?_
  refine k_iald (v := (rI S x1) v13.toNatClampNeg) B dX13_cost_354 h3 h4 rfl ?_
  refine k_goto (tgt := 366) B dX13_cost_355 (by decide) ?_
  refine k_sub [0, 1, 2, 3, 4, 5, 6] rfl ?_
  exact kk
theorem bX13_cost_358 (B : Bd p s m args meth c cX13_cost 14 (wsOf yX13_cost cX13_cost 14 (some .int)) RX13 w (some .int) "cost") {v0 : Nat} {v1 : Int32} {v2 : Int32} {v3 : Int32} {v4 : Int32} {v5 : Int32} {v7 : Int32} {v13 : Int32} {t0 : Int32} {x1 : Nat} {Q : State → Prop} (h1 : kd S v0 = 15) (h2 : gP S 915 v0 = some x1) (h3 : kd S x1 = 21) (h4 : vp_in v13 (ln S x1)) (kk : K p l e rX13_cost s m args below meth c 14 w 0 0 Q S 366 [(0, .ref v0), (1, .int v1), (2, .int v2), (3, .int v3), (4, .int v4), (5, .int v5), (7, .int v7)] [.int (-((rI S x1) v13.toNatClampNeg)), .int t0]) : K p l e rX13_cost s m args below meth c 14 w 0 0 Q S 358 [(0, .ref v0), (1, .int v1), (2, .int v2), (3, .int v3), (4, .int v4), (5, .int v5), (7, .int v7), (13, .int v13)] [.int t0] := by
  refine k_aload_n B 0 rfl rfl dX13_cost_358 ?_
  refine k_getP (f := 915) (r := gP S 915 v0) B 14 19 rfl (by decide) rfl (by decide) rfl rfl (fun w h => in_of (uw_14 w h)) (in_of qfRX13_53) dX13_cost_359 h1 rfl ?_
  rw [h2]; change K _ _ _ _ _ _ _ _ _ _ _ _ _ _ _ _ _ _ (.ref x1 :: _)
  refine k_iload B 7 rfl dX13_cost_362 ?_
  refine k_iald (v := (rI S x1) v13.toNatClampNeg) B dX13_cost_364 h3 h4 rfl ?_
  refine k_ineg B dX13_cost_365 ?_
  refine k_sub [0, 1, 2, 3, 4, 5, 6] rfl ?_
  exact kk
theorem bX13_cost_366 (B : Bd p s m args meth c cX13_cost 14 (wsOf yX13_cost cX13_cost 14 (some .int)) RX13 w (some .int) "cost") {v0 : Nat} {v1 : Int32} {v2 : Int32} {v3 : Int32} {v4 : Int32} {v5 : Int32} {v7 : Int32} {t0 : Int32} {t1 : Int32} {x1 : Nat} {Q : State → Prop} (h1 : kd S v0 = 15) (h2 : gP S 925 v0 = some x1) (h3 : kd S x1 = 21) (h4 : vp_in v7 (ln S x1)) (kk : K p l e rX13_cost s m args below meth c 14 w 0 0 Q (sRI S x1 (va_up (rI S x1) v7.toNatClampNeg (t0 + t1))) 378 [(0, .ref v0), (1, .int v1), (2, .int v2), (3, .int v3), (4, .int v4), (5, .int v5), (6, .int (t0 + t1)), (7, .int v7)] []) : K p l e rX13_cost s m args below meth c 14 w 0 0 Q S 366 [(0, .ref v0), (1, .int v1), (2, .int v2), (3, .int v3), (4, .int v4), (5, .int v5), (7, .int v7)] [.int t1, .int t0] := by
  refine k_iadd B dX13_cost_366 ?_
  refine k_istore (lst' := [(6, .int (t0 + t1)), (0, .ref v0), (1, .int v1), (2, .int v2), (3, .int v3), (4, .int v4), (5, .int v5), (7, .int v7)]) B (by decide) rfl dX13_cost_367 ?_
  refine k_aload_n B 1 rfl rfl dX13_cost_369 ?_
  refine k_getP (f := 925) (r := gP S 925 v0) B 14 29 rfl (by decide) rfl (by decide) rfl rfl (fun w h => in_of (uw_14 w h)) (in_of qfRX13_86) dX13_cost_370 h1 rfl ?_
  rw [h2]; change K _ _ _ _ _ _ _ _ _ _ _ _ _ _ _ _ _ _ (.ref x1 :: _)
  refine k_iload B 7 rfl dX13_cost_373 ?_
  refine k_iload B 0 rfl dX13_cost_375 ?_
  refine k_iast (g := rI S x1) (S' := sRI S x1 (va_up (rI S x1) v7.toNatClampNeg (t0 + t1))) B dX13_cost_377 h3 h4 rfl rfl ?_
  refine k_sub [1, 2, 3, 4, 5, 6, 0, 7] rfl ?_
  exact kk
theorem bX13_cost_378 (B : Bd p s m args meth c cX13_cost 14 (wsOf yX13_cost cX13_cost 14 (some .int)) RX13 w (some .int) "cost") {v0 : Nat} {v1 : Int32} {v2 : Int32} {v3 : Int32} {v4 : Int32} {v5 : Int32} {v6 : Int32} {v7 : Int32} {Q : State → Prop} (h1 : kd S v0 = 15) (kk : K p l e rX13_cost s m args below meth c 14 w 0 0 Q (sI S 930 v0 (if (gI S 930 v0) < v6 then v6 else (gI S 930 v0))) 103 [(0, .ref v0), (1, .int v1), (2, .int (v2 + 4)), (3, .int v3), (4, .int v4), (5, .int v5), (6, .int v6), (7, .int (v7 + 1))] []) : K p l e rX13_cost s m args below meth c 14 w 0 0 Q S 378 [(0, .ref v0), (1, .int v1), (2, .int v2), (3, .int v3), (4, .int v4), (5, .int v5), (6, .int v6), (7, .int v7)] [] := by
  refine k_aload_n B 0 rfl rfl dX13_cost_378 ?_
  refine k_aload_n B 0 rfl rfl dX13_cost_379 ?_
  refine k_getI (f := 930) (v := gI S 930 v0) B 14 34 rfl (by decide) rfl (by decide) rfl rfl (fun w h => in_of (uw_14 w h)) (in_of qfRX13_187) dX13_cost_380 h1 rfl ?_
  refine k_iload B 6 rfl dX13_cost_383 ?_
  refine k_max B (in_of qlRX13_197) (in_of qs_max) (in_of qz_Math) (in_of qc_max) (Nat.le_of_ble_eq_true rfl) (Nat.le_of_ble_eq_true rfl) (Nat.le_of_ble_eq_true rfl) (Nat.le_of_ble_eq_true rfl) dX13_cost_385 ?_
  refine k_putI (f := 930) B 14 34 rfl (by decide) rfl (by decide) rfl rfl (fun w h => in_of (uw_14 w h)) (in_of qfRX13_187) tyX13 tyX13_ok nmX13 rfl (tyX13_ok 34 (by decide)) dX13_cost_388 h1 ?_
  refine k_iinc (v := v2 + 4) (lst' := [(2, .int (v2 + 4)), (0, .ref v0), (1, .int v1), (3, .int v3), (4, .int v4), (5, .int v5), (6, .int v6), (7, .int v7)]) B 2 rfl rfl (by decide) rfl dX13_cost_391 ?_
  refine k_iinc (v := v7 + 1) (lst' := [(7, .int (v7 + 1)), (2, .int (v2 + 4)), (0, .ref v0), (1, .int v1), (3, .int v3), (4, .int v4), (5, .int v5), (6, .int v6)]) B 7 rfl rfl (by decide) rfl dX13_cost_394 ?_
  refine k_goto (tgt := 103) B dX13_cost_397 (by decide) ?_
  refine k_sub [2, 3, 1, 4, 5, 6, 7, 0] rfl ?_
  exact kk
theorem bX13_cost_400 (B : Bd p s m args meth c cX13_cost 14 (wsOf yX13_cost cX13_cost 14 (some .int)) RX13 w (some .int) "cost") {v0 : Nat} {v1 : Int32} {v2 : Int32} {x1 : Nat} {post : Int32 → St → Prop} (h1 : kd S v0 = 15) (h2 : gP S 912 v0 = some x1) (h3 : kd S x1 = 21) (h4 : vp_in v1 (ln S x1)) (hq : post (((gI S 926 v0) + (3 * (gI S 927 v0))) + (2 * (if 0 < (v2 - ((rI S x1) v1.toNatClampNeg)) then (v2 - ((rI S x1) v1.toNatClampNeg)) else 0))) (sI S 928 v0 v2)) : K p l e rX13_cost s m args below meth c 14 w 0 0 (MQ below (va_Qi post (fun S' t => Hd w S' t.heap) (wA w)) args s 0 0 (wA w)) S 400 [(0, .ref v0), (1, .int v1), (2, .int v2)] [] := by
  refine k_aload_n B 0 rfl rfl dX13_cost_400 ?_
  refine k_iload_n B 2 rfl rfl dX13_cost_401 ?_
  refine k_putI (f := 928) B 14 32 rfl (by decide) rfl (by decide) rfl rfl (fun w h => in_of (uw_14 w h)) (in_of qfRX13_200) tyX13 tyX13_ok nmX13 rfl (tyX13_ok 32 (by decide)) dX13_cost_402 h1 ?_
  refine k_aload_n B 0 rfl rfl dX13_cost_405 ?_
  refine k_getI (f := 926) (v := gI S 926 v0) B 14 30 rfl (by decide) rfl (by decide) rfl rfl (fun w h => in_of (uw_14 w h)) (in_of qfRX13_178) dX13_cost_406 h1 rfl ?_
  refine k_iconst (v := 3) B (by decide) dX13_cost_409 ?_
  refine k_aload_n B 0 rfl rfl dX13_cost_410 ?_
  refine k_getI (f := 927) (v := gI S 927 v0) B 14 31 rfl (by decide) rfl (by decide) rfl rfl (fun w h => in_of (uw_14 w h)) (in_of qfRX13_181) dX13_cost_411 h1 rfl ?_
  refine k_imul B dX13_cost_414 ?_
  refine k_iadd B dX13_cost_415 ?_
  refine k_iconst (v := 2) B (by decide) dX13_cost_416 ?_
  refine k_iconst (v := 0) B (by decide) dX13_cost_417 ?_
  refine k_aload_n B 0 rfl rfl dX13_cost_418 ?_
  refine k_getI (f := 928) (v := v2) B 14 32 rfl (by decide) rfl (by decide) rfl rfl (fun w h => in_of (uw_14 w h)) (in_of qfRX13_200) dX13_cost_419 h1 (by simp [kd_sI, kd_sP, kd_sRI, kd_sRP, kd_nw, gI_sI, gI_sP, gI_sRI, gI_sRP, gI_nw, gP_sI, gP_sP, gP_sRI, gP_sRP, gP_nw, ln_sI, ln_sP, ln_sRI, ln_sRP, ln_nw, rI_sI, rI_sP, rI_sRI, rI_sRP, rI_nw, rP_sI, rP_sP, rP_sRI, rP_sRP, rP_nw, va_up_self]) ?_
  refine k_aload_n B 0 rfl rfl dX13_cost_422 ?_
  refine k_getP (f := 912) (r := gP S 912 v0) B 14 16 rfl (by decide) rfl (by decide) rfl rfl (fun w h => in_of (uw_14 w h)) (in_of qfRX13_47) dX13_cost_423 h1 rfl ?_
  rw [h2]; change K _ _ _ _ _ _ _ _ _ _ _ _ _ _ _ _ _ _ (.ref x1 :: _)
  refine k_iload_n B 1 rfl rfl dX13_cost_426 ?_
  refine k_iald (v := (rI S x1) v1.toNatClampNeg) B dX13_cost_427 h3 h4 rfl ?_
  refine k_isub B dX13_cost_428 ?_
  refine k_max B (in_of qlRX13_197) (in_of qs_max) (in_of qz_Math) (in_of qc_max) (Nat.le_of_ble_eq_true rfl) (Nat.le_of_ble_eq_true rfl) (Nat.le_of_ble_eq_true rfl) (Nat.le_of_ble_eq_true rfl) dX13_cost_429 ?_
  refine k_imul B dX13_cost_432 ?_
  refine k_iadd B dX13_cost_433 ?_
  exact ret_I B rfl dX13_cost_434 (hq)
theorem bX13_routeCost_0 (B : Bd p s m args meth c cX13_routeCost 2 (wsOf yX13_routeCost cX13_routeCost 2 (some .int)) RX13 w (some .int) "routeCost") {v0 : Nat} {v1 : Int32} {post : St → Prop} {Q : State → Prop} (hc : ConV l yX13_look (wsOf yX13_look cX13_look 2 none) rX13_look w S [.ref v0, .int v1] post) (h1 : kd S v0 = 15) (kk : ∀ (S' : St), post S' → K p l e rX13_routeCost s m args below meth c 2 w 0 0 Q S' 5 [(0, .ref v0), (1, .int v1)] []) : K p l e rX13_routeCost s m args below meth c 2 w 0 0 Q S 0 [(0, .ref v0), (1, .int v1)] [] := by
  refine k_aload_n B 0 rfl rfl dX13_routeCost_0 ?_
  refine k_iload_n B 1 rfl rfl dX13_routeCost_1 ?_
  refine callV_V (st := []) B [.int v1] (hc) (cwV 1 B.1.2.2.2.2 (gV qlRX13_203 qiX13_look qeX13_look qzRX13 qcX13_look) rfl rfl rfl (by decide +kernel) ⟨Nat.le_of_ble_eq_true rfl, Nat.le_of_ble_eq_true rfl⟩) rfl rfl (by decide) h1 (Nat.le_of_ble_eq_true rfl) rfl dX13_routeCost_2 ⟨Nat.le_of_ble_eq_true rfl, Nat.le_of_ble_eq_true rfl⟩ (fun S' hp => ?_)
  exact kk S' hp
theorem bX13_routeCost_5 (B : Bd p s m args meth c cX13_routeCost 2 (wsOf yX13_routeCost cX13_routeCost 2 (some .int)) RX13 w (some .int) "routeCost") {v0 : Nat} {v1 : Int32} {post : Int32 → St → Prop} {Q : State → Prop} (hc : ConI l yX13_cost (wsOf yX13_cost cX13_cost 14 (some .int)) rX13_cost w S [.ref v0, .int v1] post) (h1 : kd S v0 = 15) (kk : ∀ (r : Int32) (S' : St), post r S' → K p l e rX13_routeCost s m args below meth c 2 w 0 0 Q S' 10 [] [.int r]) : K p l e rX13_routeCost s m args below meth c 2 w 0 0 Q S 5 [(0, .ref v0), (1, .int v1)] [] := by
  refine k_aload_n B 0 rfl rfl dX13_routeCost_5 ?_
  refine k_iload_n B 1 rfl rfl dX13_routeCost_6 ?_
  refine callV_I (st := []) B [.int v1] (hc) (cwV 1 B.1.2.2.2.2 (gV qlRX13_207 qiX13_cost qeX13_cost qzRX13 qcX13_cost) rfl rfl rfl (by decide +kernel) ⟨Nat.le_of_ble_eq_true rfl, Nat.le_of_ble_eq_true rfl⟩) rfl rfl (by decide) h1 (Nat.le_of_ble_eq_true rfl) rfl dX13_routeCost_7 ⟨Nat.le_of_ble_eq_true rfl, Nat.le_of_ble_eq_true rfl⟩ (fun r S' hp => ?_)
  refine k_sub [] rfl ?_
  exact kk r S' hp
theorem bX13_routeCost_10 (B : Bd p s m args meth c cX13_routeCost 2 (wsOf yX13_routeCost cX13_routeCost 2 (some .int)) RX13 w (some .int) "routeCost") {t0 : Int32} {post : Int32 → St → Prop}  (hq : post t0 S) : K p l e rX13_routeCost s m args below meth c 2 w 0 0 (MQ below (va_Qi post (fun S' t => Hd w S' t.heap) (wA w)) args s 0 0 (wA w)) S 10 [] [.int t0] := by
  exact ret_I B rfl dX13_routeCost_10 (hq)
theorem bX13_more_0 (B : Bd p s m args meth c cX13_more 6 (wsOf yX13_more cX13_more 6 (some .int)) RX13 w (some .int) "more") {v0 : Nat} {v1 : Int32} {v2 : Int32} {v3 : Int32} {post : Int32 → St → Prop} {Q : State → Prop} (hc : ConI l yX13_routeCost (wsOf yX13_routeCost cX13_routeCost 2 (some .int)) rX13_routeCost w S [.ref v0, .int v2] post) (h1 : kd S v0 = 15) (kk : ∀ (r : Int32) (S' : St), post r S' → K p l e rX13_more s m args below meth c 6 w 0 0 Q S' 5 [(0, .ref v0), (1, .int v1), (2, .int v2), (3, .int v3)] [.int r]) : K p l e rX13_more s m args below meth c 6 w 0 0 Q S 0 [(0, .ref v0), (1, .int v1), (2, .int v2), (3, .int v3)] [] := by
  refine k_aload_n B 0 rfl rfl dX13_more_0 ?_
  refine k_iload_n B 2 rfl rfl dX13_more_1 ?_
  refine callV_I (st := []) B [.int v2] (hc) (cwV 1 B.1.2.2.2.2 (gV qlRX13_210 qiX13_routeCost qeX13_routeCost qzRX13 qcX13_routeCost) rfl rfl rfl (by decide +kernel) ⟨Nat.le_of_ble_eq_true rfl, Nat.le_of_ble_eq_true rfl⟩) rfl rfl (by decide) h1 (Nat.le_of_ble_eq_true rfl) rfl dX13_more_2 ⟨Nat.le_of_ble_eq_true rfl, Nat.le_of_ble_eq_true rfl⟩ (fun r S' hp => ?_)
  exact kk r S' hp
theorem bX13_more_5 (B : Bd p s m args meth c cX13_more 6 (wsOf yX13_more cX13_more 6 (some .int)) RX13 w (some .int) "more") {v0 : Nat} {v1 : Int32} {v2 : Int32} {v3 : Int32} {t0 : Int32} {post : St → Prop} {Q : State → Prop} (hc : ConV l yX13_insert (wsOf yX13_insert cX13_insert 3 none) rX13_insert w S [.ref v0, .int v1, .int v3] post) (h1 : kd S v0 = 15) (kk : ∀ (S' : St), post S' → K p l e rX13_more s m args below meth c 6 w 0 0 Q S' 13 [(0, .ref v0), (2, .int v2), (4, .int t0)] []) : K p l e rX13_more s m args below meth c 6 w 0 0 Q S 5 [(0, .ref v0), (1, .int v1), (2, .int v2), (3, .int v3)] [.int t0] := by
  refine k_istore (lst' := [(4, .int t0), (0, .ref v0), (1, .int v1), (2, .int v2), (3, .int v3)]) B (by decide) rfl dX13_more_5 ?_
  refine k_aload_n B 1 rfl rfl dX13_more_7 ?_
  refine k_iload_n B 2 rfl rfl dX13_more_8 ?_
  refine k_iload_n B 4 rfl rfl dX13_more_9 ?_
  refine callV_V (st := []) B [.int v1, .int v3] (hc) (cwV 2 B.1.2.2.2.2 (gV qlRX13_213 qiX13_insert qeX13_insert qzRX13 qcX13_insert) rfl rfl rfl (by decide +kernel) ⟨Nat.le_of_ble_eq_true rfl, Nat.le_of_ble_eq_true rfl⟩) rfl rfl (by decide) h1 (Nat.le_of_ble_eq_true rfl) rfl dX13_more_10 ⟨Nat.le_of_ble_eq_true rfl, Nat.le_of_ble_eq_true rfl⟩ (fun S' hp => ?_)
  refine k_sub [1, 3, 0] rfl ?_
  exact kk S' hp
theorem bX13_more_13 (B : Bd p s m args meth c cX13_more 6 (wsOf yX13_more cX13_more 6 (some .int)) RX13 w (some .int) "more") {v0 : Nat} {v2 : Int32} {v4 : Int32} {post : Int32 → St → Prop} {Q : State → Prop} (hc : ConI l yX13_cost (wsOf yX13_cost cX13_cost 14 (some .int)) rX13_cost w S [.ref v0, .int v2] post) (h1 : kd S v0 = 15) (kk : ∀ (r : Int32) (S' : St), post r S' → K p l e rX13_more s m args below meth c 6 w 0 0 Q S' 18 [(0, .ref v0), (2, .int v2), (4, .int v4)] [.int r]) : K p l e rX13_more s m args below meth c 6 w 0 0 Q S 13 [(0, .ref v0), (2, .int v2), (4, .int v4)] [] := by
  refine k_aload_n B 0 rfl rfl dX13_more_13 ?_
  refine k_iload_n B 1 rfl rfl dX13_more_14 ?_
  refine callV_I (st := []) B [.int v2] (hc) (cwV 1 B.1.2.2.2.2 (gV qlRX13_207 qiX13_cost qeX13_cost qzRX13 qcX13_cost) rfl rfl rfl (by decide +kernel) ⟨Nat.le_of_ble_eq_true rfl, Nat.le_of_ble_eq_true rfl⟩) rfl rfl (by decide) h1 (Nat.le_of_ble_eq_true rfl) rfl dX13_more_15 ⟨Nat.le_of_ble_eq_true rfl, Nat.le_of_ble_eq_true rfl⟩ (fun r S' hp => ?_)
  exact kk r S' hp
theorem bX13_more_18 (B : Bd p s m args meth c cX13_more 6 (wsOf yX13_more cX13_more 6 (some .int)) RX13 w (some .int) "more") {v0 : Nat} {v2 : Int32} {v4 : Int32} {t0 : Int32} {Q : State → Prop} (h1 : kd S v0 = 15) (kt : 12 < (gI S 922 v0) → K p l e rX13_more s m args below meth c 6 w 0 0 Q S 42 [] []) (kf : ¬ 12 < (gI S 922 v0) → K p l e rX13_more s m args below meth c 6 w 0 0 Q S 29 [(0, .ref v0), (2, .int v2), (4, .int v4), (5, .int t0)] []) : K p l e rX13_more s m args below meth c 6 w 0 0 Q S 18 [(0, .ref v0), (2, .int v2), (4, .int v4)] [.int t0] := by
  refine k_istore (lst' := [(5, .int t0), (0, .ref v0), (2, .int v2), (4, .int v4)]) B (by decide) rfl dX13_more_18 ?_
  refine k_aload_n B 1 rfl rfl dX13_more_20 ?_
  refine k_getI (f := 922) (v := gI S 922 v0) B 14 26 rfl (by decide) rfl (by decide) rfl rfl (fun w h => in_of (uw_14 w h)) (in_of qfRX13_172) dX13_more_21 h1 rfl ?_
  refine k_bipush (v := 12) B (by decide) dX13_more_24 ?_
  refine k_icmp_gt (tgt := 42) B dX13_more_26 (by decide) (fun c => ?_) (fun c => ?_)
  · refine k_sub [] rfl ?_
    exact kt c
  · refine k_sub [1, 2, 3, 0] rfl ?_
    exact kf c
theorem bX13_more_29 (B : Bd p s m args meth c cX13_more 6 (wsOf yX13_more cX13_more 6 (some .int)) RX13 w (some .int) "more") {v0 : Nat} {v2 : Int32} {v4 : Int32} {v5 : Int32} {x1 : Nat} {Q : State → Prop} (h1 : kd S v0 = 15) (h2 : gP S 910 v0 = some x1) (h3 : kd S x1 = 21) (h4 : vp_in v2 (ln S x1)) (kt : (gI S 930 v0) ≤ ((rI S x1) v2.toNatClampNeg) → K p l e rX13_more s m args below meth c 6 w 0 0 Q S 47 [(4, .int v4), (5, .int v5)] []) (kf : ¬ (gI S 930 v0) ≤ ((rI S x1) v2.toNatClampNeg) → K p l e rX13_more s m args below meth c 6 w 0 0 Q S 42 [] []) : K p l e rX13_more s m args below meth c 6 w 0 0 Q S 29 [(0, .ref v0), (2, .int v2), (4, .int v4), (5, .int v5)] [] := by
  refine k_aload_n B 0 rfl rfl dX13_more_29 ?_
  refine k_getI (f := 930) (v := gI S 930 v0) B 14 34 rfl (by decide) rfl (by decide) rfl rfl (fun w h => in_of (uw_14 w h)) (in_of qfRX13_187) dX13_more_30 h1 rfl ?_
  refine k_aload_n B 0 rfl rfl dX13_more_33 ?_
  refine k_getP (f := 910) (r := gP S 910 v0) B 14 14 rfl (by decide) rfl (by decide) rfl rfl (fun w h => in_of (uw_14 w h)) (in_of qfRX13_41) dX13_more_34 h1 rfl ?_
  rw [h2]; change K _ _ _ _ _ _ _ _ _ _ _ _ _ _ _ _ _ _ (.ref x1 :: _)
  refine k_iload_n B 1 rfl rfl dX13_more_37 ?_
  refine k_iald (v := (rI S x1) v2.toNatClampNeg) B dX13_more_38 h3 h4 rfl ?_
  refine k_icmp_le (tgt := 47) B dX13_more_39 (by decide) (fun c => ?_) (fun c => ?_)
  · refine k_sub [2, 3] rfl ?_
    exact kt c
  · refine k_sub [] rfl ?_
    exact kf c
theorem bX13_more_42 (B : Bd p s m args meth c cX13_more 6 (wsOf yX13_more cX13_more 6 (some .int)) RX13 w (some .int) "more") {Q : State → Prop}  (kk : K p l e rX13_more s m args below meth c 6 w 0 0 Q S 52 [] [.int 1000000]) : K p l e rX13_more s m args below meth c 6 w 0 0 Q S 42 [] [] := by
  refine k_ldc (v := 1000000) B (in_of qtRX13_217) dX13_more_42 ?_
  refine k_goto (tgt := 52) B dX13_more_44 (by decide) ?_
  exact kk
theorem bX13_more_47 (B : Bd p s m args meth c cX13_more 6 (wsOf yX13_more cX13_more 6 (some .int)) RX13 w (some .int) "more") {v4 : Int32} {v5 : Int32} {Q : State → Prop}  (kk : K p l e rX13_more s m args below meth c 6 w 0 0 Q S 52 [] [.int (v5 - v4)]) : K p l e rX13_more s m args below meth c 6 w 0 0 Q S 47 [(4, .int v4), (5, .int v5)] [] := by
  refine k_iload B 1 rfl dX13_more_47 ?_
  refine k_iload B 0 rfl dX13_more_49 ?_
  refine k_isub B dX13_more_51 ?_
  refine k_sub [] rfl ?_
  exact kk
theorem bX13_more_52 (B : Bd p s m args meth c cX13_more 6 (wsOf yX13_more cX13_more 6 (some .int)) RX13 w (some .int) "more") {t0 : Int32} {post : Int32 → St → Prop}  (hq : post t0 S) : K p l e rX13_more s m args below meth c 6 w 0 0 (MQ below (va_Qi post (fun S' t => Hd w S' t.heap) (wA w)) args s 0 0 (wA w)) S 52 [] [.int t0] := by
  exact ret_I B rfl dX13_more_52 (hq)
theorem bX13_isFree_0 (B : Bd p s m args meth c cX13_isFree 2 (wsOf yX13_isFree cX13_isFree 2 (some .boolean)) RX13 w (some .boolean) "isFree") {v0 : Nat} {v1 : Int32} {x1 : Nat} {x2 : Nat} {Q : State → Prop} (h1 : kd S v0 = 15) (h2 : gP S 919 v0 = some x1) (h3 : kd S x1 = 14) (h4 : gP S 834 x1 = some x2) (h5 : kd S x2 = 21) (h6 : vp_in v1 (ln S x2)) (kt : ¬ ((rI S x2) v1.toNatClampNeg) = 0 → K p l e rX13_isFree s m args below meth c 2 w 0 0 Q S 28 [] []) (kf : ((rI S x2) v1.toNatClampNeg) = 0 → K p l e rX13_isFree s m args below meth c 2 w 0 0 Q S 12 [(0, .ref v0), (1, .int v1)] []) : K p l e rX13_isFree s m args below meth c 2 w 0 0 Q S 0 [(0, .ref v0), (1, .int v1)] [] := by
  refine k_aload_n B 0 rfl rfl dX13_isFree_0 ?_
  refine k_getP (f := 919) (r := gP S 919 v0) B 14 23 rfl (by decide) rfl (by decide) rfl rfl (fun w h => in_of (uw_14 w h)) (in_of qfRX13_70) dX13_isFree_1 h1 rfl ?_
  rw [h2]; change K _ _ _ _ _ _ _ _ _ _ _ _ _ _ _ _ _ _ (.ref x1 :: _)
  refine k_getPN (f := 834) (r := gP S 834 x1) B 13 2 rfl (by decide) rfl (by decide) rfl rfl (fun w h => in_of (uw_13 w h)) "LastMileModel" (nzF_3 B.2.2.2.1.2.2.2.1) dX13_isFree_4 h3 rfl ?_
  rw [h4]; change K _ _ _ _ _ _ _ _ _ _ _ _ _ _ _ _ _ _ (.ref x2 :: _)
  refine k_iload_n B 1 rfl rfl dX13_isFree_7 ?_
  refine k_iald (v := (rI S x2) v1.toNatClampNeg) B dX13_isFree_8 h5 h6 rfl ?_
  refine k_if_ne (tgt := 28) B dX13_isFree_9 (by decide) (fun c => ?_) (fun c => ?_)
  · refine k_sub [] rfl ?_
    exact kt c
  · exact kf c
theorem bX13_isFree_12 (B : Bd p s m args meth c cX13_isFree 2 (wsOf yX13_isFree cX13_isFree 2 (some .boolean)) RX13 w (some .boolean) "isFree") {v0 : Nat} {v1 : Int32} {x1 : Nat} {post : Int32 → St → Prop} {Q : State → Prop} (h1 : kd S v0 = 15) (h2 : gP S 919 v0 = some x1) (hc : ConI l yX12_vanOf (wsOf yX12_vanOf cX12_vanOf 4 (some .int)) rX12_vanOf w S [.ref x1, .int v1] post) (h3 : kd S x1 = 14) (kk : ∀ (r : Int32) (S' : St), post r S' → K p l e rX13_isFree s m args below meth c 2 w 0 0 Q S' 20 [] [.int r]) : K p l e rX13_isFree s m args below meth c 2 w 0 0 Q S 12 [(0, .ref v0), (1, .int v1)] [] := by
  refine k_aload_n B 0 rfl rfl dX13_isFree_12 ?_
  refine k_getP (f := 919) (r := gP S 919 v0) B 14 23 rfl (by decide) rfl (by decide) rfl rfl (fun w h => in_of (uw_14 w h)) (in_of qfRX13_70) dX13_isFree_13 h1 rfl ?_
  rw [h2]; change K _ _ _ _ _ _ _ _ _ _ _ _ _ _ _ _ _ _ (.ref x1 :: _)
  refine k_iload_n B 1 rfl rfl dX13_isFree_16 ?_
  refine callV_I (st := []) B [.int v1] (hc) (cwV 1 B.1.2.2.2.2 (gV qlRX13_160 qiX12_vanOf qeX12_vanOf qzRX12 qcX12_vanOf) rfl rfl rfl (by decide +kernel) ⟨Nat.le_of_ble_eq_true rfl, Nat.le_of_ble_eq_true rfl⟩) rfl rfl (by decide) h3 (Nat.le_of_ble_eq_true rfl) rfl dX13_isFree_17 ⟨Nat.le_of_ble_eq_true rfl, Nat.le_of_ble_eq_true rfl⟩ (fun r S' hp => ?_)
  refine k_sub [] rfl ?_
  exact kk r S' hp
theorem bX13_isFree_20 (B : Bd p s m args meth c cX13_isFree 2 (wsOf yX13_isFree cX13_isFree 2 (some .boolean)) RX13 w (some .boolean) "isFree") {t0 : Int32} {Q : State → Prop}  (kt : ¬ t0 = (-1) → K p l e rX13_isFree s m args below meth c 2 w 0 0 Q S 28 [] []) (kf : t0 = (-1) → K p l e rX13_isFree s m args below meth c 2 w 0 0 Q S 24 [] []) : K p l e rX13_isFree s m args below meth c 2 w 0 0 Q S 20 [] [.int t0] := by
  refine k_iconst (v := (-1)) B (by decide) dX13_isFree_20 ?_
  refine k_icmp_ne (tgt := 28) B dX13_isFree_21 (by decide) (fun c => ?_) (fun c => ?_)
  · exact kt c
  · exact kf c
theorem bX13_isFree_24 (B : Bd p s m args meth c cX13_isFree 2 (wsOf yX13_isFree cX13_isFree 2 (some .boolean)) RX13 w (some .boolean) "isFree") {Q : State → Prop}  (kk : K p l e rX13_isFree s m args below meth c 2 w 0 0 Q S 29 [] [.int 1]) : K p l e rX13_isFree s m args below meth c 2 w 0 0 Q S 24 [] [] := by
  refine k_iconst (v := 1) B (by decide) dX13_isFree_24 ?_
  refine k_goto (tgt := 29) B dX13_isFree_25 (by decide) ?_
  exact kk
theorem bX13_isFree_28 (B : Bd p s m args meth c cX13_isFree 2 (wsOf yX13_isFree cX13_isFree 2 (some .boolean)) RX13 w (some .boolean) "isFree") {Q : State → Prop}  (kk : K p l e rX13_isFree s m args below meth c 2 w 0 0 Q S 29 [] [.int 0]) : K p l e rX13_isFree s m args below meth c 2 w 0 0 Q S 28 [] [] := by
  refine k_iconst (v := 0) B (by decide) dX13_isFree_28 ?_
  exact kk
theorem bX13_isFree_29 (B : Bd p s m args meth c cX13_isFree 2 (wsOf yX13_isFree cX13_isFree 2 (some .boolean)) RX13 w (some .boolean) "isFree") {t0 : Int32} {post : Int32 → St → Prop}  (hv : t0 = 0 ∨ t0 = 1) (hq : post t0 S) : K p l e rX13_isFree s m args below meth c 2 w 0 0 (MQ below (va_Qi post (fun S' t => Hd w S' t.heap) (wA w)) args s 0 0 (wA w)) S 29 [] [.int t0] := by
  exact ret_Z B rfl dX13_isFree_29 (hv) (hq)
theorem bX13_put_0 (B : Bd p s m args meth c cX13_put 5 (wsOf yX13_put cX13_put 5 (some .int)) RX13 w (some .int) "put") {v0 : Nat} {v1 : Int32} {v2 : Int32} {v3 : Int32} {post : Int32 → St → Prop} {Q : State → Prop} (h1 : kd S v0 = 15) (hc : ConI l yX13_isParcel (wsOf yX13_isParcel cX13_isParcel 2 (some .boolean)) rX13_isParcel w (sI S 896 v0 0) [.ref v0, .int v1] post) (kk : ∀ (r : Int32) (S' : St), post r S' → K p l e rX13_put s m args below meth c 5 w 0 0 Q S' 10 [(0, .ref v0), (1, .int v1), (2, .int v2), (3, .int v3)] [.int r]) : K p l e rX13_put s m args below meth c 5 w 0 0 Q S 0 [(0, .ref v0), (1, .int v1), (2, .int v2), (3, .int v3)] [] := by
  refine k_aload_n B 0 rfl rfl dX13_put_0 ?_
  refine k_iconst (v := 0) B (by decide) dX13_put_1 ?_
  refine k_putI (f := 896) B 14 0 rfl (by decide) rfl (by decide) rfl rfl (fun w h => in_of (uw_14 w h)) (in_of qfRX13_95) tyX13 tyX13_ok nmX13 rfl (tyX13_ok 0 (by decide)) dX13_put_2 h1 ?_
  refine k_aload_n B 0 rfl rfl dX13_put_5 ?_
  refine k_iload_n B 1 rfl rfl dX13_put_6 ?_
  refine callV_I (st := []) B [.int v1] (hc) (cwV 1 B.1.2.2.2.2 (gV qlRX13_163 qiX13_isParcel qeX13_isParcel qzRX13 qcX13_isParcel) rfl rfl rfl (by decide +kernel) ⟨Nat.le_of_ble_eq_true rfl, Nat.le_of_ble_eq_true rfl⟩) rfl rfl (by decide) h1 (Nat.le_of_ble_eq_true rfl) rfl dX13_put_7 ⟨Nat.le_of_ble_eq_true rfl, Nat.le_of_ble_eq_true rfl⟩ (fun r S' hp => ?_)
  exact kk r S' hp
theorem bX13_put_10 (B : Bd p s m args meth c cX13_put 5 (wsOf yX13_put cX13_put 5 (some .int)) RX13 w (some .int) "put") {v0 : Nat} {v1 : Int32} {v2 : Int32} {v3 : Int32} {t0 : Int32} {Q : State → Prop}  (kt : t0 = 0 → K p l e rX13_put s m args below meth c 5 w 0 0 Q S 38 [(0, .ref v0)] []) (kf : ¬ t0 = 0 → K p l e rX13_put s m args below meth c 5 w 0 0 Q S 13 [(0, .ref v0), (1, .int v1), (2, .int v2), (3, .int v3)] []) : K p l e rX13_put s m args below meth c 5 w 0 0 Q S 10 [(0, .ref v0), (1, .int v1), (2, .int v2), (3, .int v3)] [.int t0] := by
  refine k_if_eq (tgt := 38) B dX13_put_10 (by decide) (fun c => ?_) (fun c => ?_)
  · refine k_sub [0] rfl ?_
    exact kt c
  · exact kf c
theorem bX13_put_13 (B : Bd p s m args meth c cX13_put 5 (wsOf yX13_put cX13_put 5 (some .int)) RX13 w (some .int) "put") {v0 : Nat} {v1 : Int32} {v2 : Int32} {v3 : Int32} {post : Int32 → St → Prop} {Q : State → Prop} (hc : ConI l yX13_isVan (wsOf yX13_isVan cX13_isVan 2 (some .boolean)) rX13_isVan w S [.ref v0, .int v2] post) (h1 : kd S v0 = 15) (kk : ∀ (r : Int32) (S' : St), post r S' → K p l e rX13_put s m args below meth c 5 w 0 0 Q S' 18 [(0, .ref v0), (1, .int v1), (2, .int v2), (3, .int v3)] [.int r]) : K p l e rX13_put s m args below meth c 5 w 0 0 Q S 13 [(0, .ref v0), (1, .int v1), (2, .int v2), (3, .int v3)] [] := by
  refine k_aload_n B 0 rfl rfl dX13_put_13 ?_
  refine k_iload_n B 2 rfl rfl dX13_put_14 ?_
  refine callV_I (st := []) B [.int v2] (hc) (cwV 1 B.1.2.2.2.2 (gV qlRX13_218 qiX13_isVan qeX13_isVan qzRX13 qcX13_isVan) rfl rfl rfl (by decide +kernel) ⟨Nat.le_of_ble_eq_true rfl, Nat.le_of_ble_eq_true rfl⟩) rfl rfl (by decide) h1 (Nat.le_of_ble_eq_true rfl) rfl dX13_put_15 ⟨Nat.le_of_ble_eq_true rfl, Nat.le_of_ble_eq_true rfl⟩ (fun r S' hp => ?_)
  exact kk r S' hp
theorem bX13_put_18 (B : Bd p s m args meth c cX13_put 5 (wsOf yX13_put cX13_put 5 (some .int)) RX13 w (some .int) "put") {v0 : Nat} {v1 : Int32} {v2 : Int32} {v3 : Int32} {t0 : Int32} {Q : State → Prop}  (kt : t0 = 0 → K p l e rX13_put s m args below meth c 5 w 0 0 Q S 38 [(0, .ref v0)] []) (kf : ¬ t0 = 0 → K p l e rX13_put s m args below meth c 5 w 0 0 Q S 21 [(0, .ref v0), (1, .int v1), (2, .int v2), (3, .int v3)] []) : K p l e rX13_put s m args below meth c 5 w 0 0 Q S 18 [(0, .ref v0), (1, .int v1), (2, .int v2), (3, .int v3)] [.int t0] := by
  refine k_if_eq (tgt := 38) B dX13_put_18 (by decide) (fun c => ?_) (fun c => ?_)
  · refine k_sub [0] rfl ?_
    exact kt c
  · exact kf c
theorem bX13_put_21 (B : Bd p s m args meth c cX13_put 5 (wsOf yX13_put cX13_put 5 (some .int)) RX13 w (some .int) "put") {v0 : Nat} {v1 : Int32} {v2 : Int32} {v3 : Int32} {x1 : Nat} {x2 : Nat} {post : Int32 → St → Prop} {Q : State → Prop} (h1 : kd S v0 = 15) (h2 : gP S 919 v0 = some x1) (h3 : kd S x1 = 14) (h4 : gP S 840 x1 = some x2) (h5 : kd S x2 = 21) (h6 : vp_in v2 (ln S x2)) (hc : ConI l yX13_isIn (wsOf yX13_isIn cX13_isIn 3 (some .boolean)) rX13_isIn w S [.int v3, .int 0, .int ((rI S x2) v2.toNatClampNeg)] post) (kk : ∀ (r : Int32) (S' : St), post r S' → K p l e rX13_put s m args below meth c 5 w 0 0 Q S' 35 [(0, .ref v0), (1, .int v1), (2, .int v2), (3, .int v3)] [.int r]) : K p l e rX13_put s m args below meth c 5 w 0 0 Q S 21 [(0, .ref v0), (1, .int v1), (2, .int v2), (3, .int v3)] [] := by
  refine k_iload_n B 3 rfl rfl dX13_put_21 ?_
  refine k_iconst (v := 0) B (by decide) dX13_put_22 ?_
  refine k_aload_n B 0 rfl rfl dX13_put_23 ?_
  refine k_getP (f := 919) (r := gP S 919 v0) B 14 23 rfl (by decide) rfl (by decide) rfl rfl (fun w h => in_of (uw_14 w h)) (in_of qfRX13_70) dX13_put_24 h1 rfl ?_
  rw [h2]; change K _ _ _ _ _ _ _ _ _ _ _ _ _ _ _ _ _ _ (.ref x1 :: _)
  refine k_getPN (f := 840) (r := gP S 840 x1) B 13 8 rfl (by decide) rfl (by decide) rfl rfl (fun w h => in_of (uw_13 w h)) "LastMileModel" (nzF_5 B.2.2.2.1.2.2.2.1) dX13_put_27 h3 rfl ?_
  rw [h4]; change K _ _ _ _ _ _ _ _ _ _ _ _ _ _ _ _ _ _ (.ref x2 :: _)
  refine k_iload_n B 2 rfl rfl dX13_put_30 ?_
  refine k_iald (v := (rI S x2) v2.toNatClampNeg) B dX13_put_31 h5 h6 rfl ?_
  refine callS_I (st := []) B [.int v3, .int 0, .int ((rI S x2) v2.toNatClampNeg)] (hc) (va_cwS 3 B.1.2.2.2.2 (gS qlRX13_98 qsX13_isIn qzRX13 qcX13_isIn) rfl rfl rfl (by decide +kernel) ⟨Nat.le_of_ble_eq_true rfl, Nat.le_of_ble_eq_true rfl⟩) rfl (Nat.le_of_ble_eq_true rfl) rfl dX13_put_32 ⟨Nat.le_of_ble_eq_true rfl, Nat.le_of_ble_eq_true rfl⟩ (fun r S' hp => ?_)
  exact kk r S' hp
theorem bX13_put_35 (B : Bd p s m args meth c cX13_put 5 (wsOf yX13_put cX13_put 5 (some .int)) RX13 w (some .int) "put") {v0 : Nat} {v1 : Int32} {v2 : Int32} {v3 : Int32} {t0 : Int32} {Q : State → Prop}  (kt : ¬ t0 = 0 → K p l e rX13_put s m args below meth c 5 w 0 0 Q S 44 [(0, .ref v0), (1, .int v1), (2, .int v2), (3, .int v3)] []) (kf : t0 = 0 → K p l e rX13_put s m args below meth c 5 w 0 0 Q S 38 [(0, .ref v0)] []) : K p l e rX13_put s m args below meth c 5 w 0 0 Q S 35 [(0, .ref v0), (1, .int v1), (2, .int v2), (3, .int v3)] [.int t0] := by
  refine k_if_ne (tgt := 44) B dX13_put_35 (by decide) (fun c => ?_) (fun c => ?_)
  · exact kt c
  · refine k_sub [0] rfl ?_
    exact kf c
theorem bX13_put_38 (B : Bd p s m args meth c cX13_put 5 (wsOf yX13_put cX13_put 5 (some .int)) RX13 w (some .int) "put") {v0 : Nat} {post : Int32 → St → Prop} {Q : State → Prop} (hc : ConI l yX13_no (wsOf yX13_no cX13_no 2 (some .int)) rX13_no w S [.ref v0, .int 1] post) (h1 : kd S v0 = 15) (kk : ∀ (r : Int32) (S' : St), post r S' → K p l e rX13_put s m args below meth c 5 w 0 0 Q S' 43 [] [.int r]) : K p l e rX13_put s m args below meth c 5 w 0 0 Q S 38 [(0, .ref v0)] [] := by
  refine k_aload_n B 0 rfl rfl dX13_put_38 ?_
  refine k_iconst (v := 1) B (by decide) dX13_put_39 ?_
  refine callV_I (st := []) B [.int 1] (hc) (cwV 1 B.1.2.2.2.2 (gV qlRX13_120 qiX13_no qeX13_no qzRX13 qcX13_no) rfl rfl rfl (by decide +kernel) ⟨Nat.le_of_ble_eq_true rfl, Nat.le_of_ble_eq_true rfl⟩) rfl rfl (by decide) h1 (Nat.le_of_ble_eq_true rfl) rfl dX13_put_40 ⟨Nat.le_of_ble_eq_true rfl, Nat.le_of_ble_eq_true rfl⟩ (fun r S' hp => ?_)
  refine k_sub [] rfl ?_
  exact kk r S' hp
theorem bX13_put_43 (B : Bd p s m args meth c cX13_put 5 (wsOf yX13_put cX13_put 5 (some .int)) RX13 w (some .int) "put") {t0 : Int32} {post : Int32 → St → Prop}  (hq : post t0 S) : K p l e rX13_put s m args below meth c 5 w 0 0 (MQ below (va_Qi post (fun S' t => Hd w S' t.heap) (wA w)) args s 0 0 (wA w)) S 43 [] [.int t0] := by
  exact ret_I B rfl dX13_put_43 (hq)
theorem bX13_put_44 (B : Bd p s m args meth c cX13_put 5 (wsOf yX13_put cX13_put 5 (some .int)) RX13 w (some .int) "put") {v0 : Nat} {v1 : Int32} {v2 : Int32} {v3 : Int32} {post : Int32 → St → Prop} {Q : State → Prop} (hc : ConI l yX13_isFree (wsOf yX13_isFree cX13_isFree 2 (some .boolean)) rX13_isFree w S [.ref v0, .int v1] post) (h1 : kd S v0 = 15) (kk : ∀ (r : Int32) (S' : St), post r S' → K p l e rX13_put s m args below meth c 5 w 0 0 Q S' 49 [(0, .ref v0), (1, .int v1), (2, .int v2), (3, .int v3)] [.int r]) : K p l e rX13_put s m args below meth c 5 w 0 0 Q S 44 [(0, .ref v0), (1, .int v1), (2, .int v2), (3, .int v3)] [] := by
  refine k_aload_n B 0 rfl rfl dX13_put_44 ?_
  refine k_iload_n B 1 rfl rfl dX13_put_45 ?_
  refine callV_I (st := []) B [.int v1] (hc) (cwV 1 B.1.2.2.2.2 (gV qlRX13_221 qiX13_isFree qeX13_isFree qzRX13 qcX13_isFree) rfl rfl rfl (by decide +kernel) ⟨Nat.le_of_ble_eq_true rfl, Nat.le_of_ble_eq_true rfl⟩) rfl rfl (by decide) h1 (Nat.le_of_ble_eq_true rfl) rfl dX13_put_46 ⟨Nat.le_of_ble_eq_true rfl, Nat.le_of_ble_eq_true rfl⟩ (fun r S' hp => ?_)
  exact kk r S' hp
theorem bX13_put_49 (B : Bd p s m args meth c cX13_put 5 (wsOf yX13_put cX13_put 5 (some .int)) RX13 w (some .int) "put") {v0 : Nat} {v1 : Int32} {v2 : Int32} {v3 : Int32} {t0 : Int32} {Q : State → Prop}  (kt : ¬ t0 = 0 → K p l e rX13_put s m args below meth c 5 w 0 0 Q S 58 [(0, .ref v0), (1, .int v1), (2, .int v2), (3, .int v3)] []) (kf : t0 = 0 → K p l e rX13_put s m args below meth c 5 w 0 0 Q S 52 [(0, .ref v0)] []) : K p l e rX13_put s m args below meth c 5 w 0 0 Q S 49 [(0, .ref v0), (1, .int v1), (2, .int v2), (3, .int v3)] [.int t0] := by
  refine k_if_ne (tgt := 58) B dX13_put_49 (by decide) (fun c => ?_) (fun c => ?_)
  · exact kt c
  · refine k_sub [0] rfl ?_
    exact kf c
theorem bX13_put_52 (B : Bd p s m args meth c cX13_put 5 (wsOf yX13_put cX13_put 5 (some .int)) RX13 w (some .int) "put") {v0 : Nat} {post : Int32 → St → Prop} {Q : State → Prop} (hc : ConI l yX13_no (wsOf yX13_no cX13_no 2 (some .int)) rX13_no w S [.ref v0, .int 2] post) (h1 : kd S v0 = 15) (kk : ∀ (r : Int32) (S' : St), post r S' → K p l e rX13_put s m args below meth c 5 w 0 0 Q S' 57 [] [.int r]) : K p l e rX13_put s m args below meth c 5 w 0 0 Q S 52 [(0, .ref v0)] [] := by
  refine k_aload_n B 0 rfl rfl dX13_put_52 ?_
  refine k_iconst (v := 2) B (by decide) dX13_put_53 ?_
  refine callV_I (st := []) B [.int 2] (hc) (cwV 1 B.1.2.2.2.2 (gV qlRX13_120 qiX13_no qeX13_no qzRX13 qcX13_no) rfl rfl rfl (by decide +kernel) ⟨Nat.le_of_ble_eq_true rfl, Nat.le_of_ble_eq_true rfl⟩) rfl rfl (by decide) h1 (Nat.le_of_ble_eq_true rfl) rfl dX13_put_54 ⟨Nat.le_of_ble_eq_true rfl, Nat.le_of_ble_eq_true rfl⟩ (fun r S' hp => ?_)
  refine k_sub [] rfl ?_
  exact kk r S' hp
theorem bX13_put_57 (B : Bd p s m args meth c cX13_put 5 (wsOf yX13_put cX13_put 5 (some .int)) RX13 w (some .int) "put") {t0 : Int32} {post : Int32 → St → Prop}  (hq : post t0 S) : K p l e rX13_put s m args below meth c 5 w 0 0 (MQ below (va_Qi post (fun S' t => Hd w S' t.heap) (wA w)) args s 0 0 (wA w)) S 57 [] [.int t0] := by
  exact ret_I B rfl dX13_put_57 (hq)
theorem bX13_put_58 (B : Bd p s m args meth c cX13_put 5 (wsOf yX13_put cX13_put 5 (some .int)) RX13 w (some .int) "put") {v0 : Nat} {v1 : Int32} {v2 : Int32} {v3 : Int32} {post : Int32 → St → Prop} {Q : State → Prop} (hc : ConI l yX13_more (wsOf yX13_more cX13_more 6 (some .int)) rX13_more w S [.ref v0, .int v1, .int v2, .int v3] post) (h1 : kd S v0 = 15) (kk : ∀ (r : Int32) (S' : St), post r S' → K p l e rX13_put s m args below meth c 5 w 0 0 Q S' 65 [(0, .ref v0), (2, .int v2)] [.int r]) : K p l e rX13_put s m args below meth c 5 w 0 0 Q S 58 [(0, .ref v0), (1, .int v1), (2, .int v2), (3, .int v3)] [] := by
  refine k_aload_n B 0 rfl rfl dX13_put_58 ?_
  refine k_iload_n B 1 rfl rfl dX13_put_59 ?_
  refine k_iload_n B 2 rfl rfl dX13_put_60 ?_
  refine k_iload_n B 3 rfl rfl dX13_put_61 ?_
  refine callV_I (st := []) B [.int v1, .int v2, .int v3] (hc) (cwV 3 B.1.2.2.2.2 (gV qlRX13_224 qiX13_more qeX13_more qzRX13 qcX13_more) rfl rfl rfl (by decide +kernel) ⟨Nat.le_of_ble_eq_true rfl, Nat.le_of_ble_eq_true rfl⟩) rfl rfl (by decide) h1 (Nat.le_of_ble_eq_true rfl) rfl dX13_put_62 ⟨Nat.le_of_ble_eq_true rfl, Nat.le_of_ble_eq_true rfl⟩ (fun r S' hp => ?_)
  refine k_sub [0, 2] rfl ?_
  exact kk r S' hp
theorem bX13_put_65 (B : Bd p s m args meth c cX13_put 5 (wsOf yX13_put cX13_put 5 (some .int)) RX13 w (some .int) "put") {v0 : Nat} {v2 : Int32} {t0 : Int32} {Q : State → Prop}  (kt : ¬ t0 = 1000000 → K p l e rX13_put s m args below meth c 5 w 0 0 Q S 80 [(0, .ref v0), (2, .int v2), (4, .int t0)] []) (kf : t0 = 1000000 → K p l e rX13_put s m args below meth c 5 w 0 0 Q S 74 [(0, .ref v0)] []) : K p l e rX13_put s m args below meth c 5 w 0 0 Q S 65 [(0, .ref v0), (2, .int v2)] [.int t0] := by
  refine k_istore (lst' := [(4, .int t0), (0, .ref v0), (2, .int v2)]) B (by decide) rfl dX13_put_65 ?_
  refine k_iload B 0 rfl dX13_put_67 ?_
  refine k_ldc (v := 1000000) B (in_of qtRX13_217) dX13_put_69 ?_
  refine k_icmp_ne (tgt := 80) B dX13_put_71 (by decide) (fun c => ?_) (fun c => ?_)
  · refine k_sub [1, 2, 0] rfl ?_
    exact kt c
  · refine k_sub [1] rfl ?_
    exact kf c
theorem bX13_put_74 (B : Bd p s m args meth c cX13_put 5 (wsOf yX13_put cX13_put 5 (some .int)) RX13 w (some .int) "put") {v0 : Nat} {post : Int32 → St → Prop} {Q : State → Prop} (hc : ConI l yX13_no (wsOf yX13_no cX13_no 2 (some .int)) rX13_no w S [.ref v0, .int 2] post) (h1 : kd S v0 = 15) (kk : ∀ (r : Int32) (S' : St), post r S' → K p l e rX13_put s m args below meth c 5 w 0 0 Q S' 79 [] [.int r]) : K p l e rX13_put s m args below meth c 5 w 0 0 Q S 74 [(0, .ref v0)] [] := by
  refine k_aload_n B 0 rfl rfl dX13_put_74 ?_
  refine k_iconst (v := 2) B (by decide) dX13_put_75 ?_
  refine callV_I (st := []) B [.int 2] (hc) (cwV 1 B.1.2.2.2.2 (gV qlRX13_120 qiX13_no qeX13_no qzRX13 qcX13_no) rfl rfl rfl (by decide +kernel) ⟨Nat.le_of_ble_eq_true rfl, Nat.le_of_ble_eq_true rfl⟩) rfl rfl (by decide) h1 (Nat.le_of_ble_eq_true rfl) rfl dX13_put_76 ⟨Nat.le_of_ble_eq_true rfl, Nat.le_of_ble_eq_true rfl⟩ (fun r S' hp => ?_)
  refine k_sub [] rfl ?_
  exact kk r S' hp
theorem bX13_put_79 (B : Bd p s m args meth c cX13_put 5 (wsOf yX13_put cX13_put 5 (some .int)) RX13 w (some .int) "put") {t0 : Int32} {post : Int32 → St → Prop}  (hq : post t0 S) : K p l e rX13_put s m args below meth c 5 w 0 0 (MQ below (va_Qi post (fun S' t => Hd w S' t.heap) (wA w)) args s 0 0 (wA w)) S 79 [] [.int t0] := by
  exact ret_I B rfl dX13_put_79 (hq)
theorem bX13_put_80 (B : Bd p s m args meth c cX13_put 5 (wsOf yX13_put cX13_put 5 (some .int)) RX13 w (some .int) "put") {v0 : Nat} {v2 : Int32} {v4 : Int32} {post : St → Prop} {Q : State → Prop} (hc : ConV l yX13_keep (wsOf yX13_keep cX13_keep 2 none) rX13_keep w S [.ref v0, .int v2] post) (h1 : kd S v0 = 15) (kk : ∀ (S' : St), post S' → K p l e rX13_put s m args below meth c 5 w 0 0 Q S' 85 [(4, .int v4)] []) : K p l e rX13_put s m args below meth c 5 w 0 0 Q S 80 [(0, .ref v0), (2, .int v2), (4, .int v4)] [] := by
  refine k_aload_n B 0 rfl rfl dX13_put_80 ?_
  refine k_iload_n B 1 rfl rfl dX13_put_81 ?_
  refine callV_V (st := []) B [.int v2] (hc) (cwV 1 B.1.2.2.2.2 (gV qlRX13_228 qiX13_keep qeX13_keep qzRX13 qcX13_keep) rfl rfl rfl (by decide +kernel) ⟨Nat.le_of_ble_eq_true rfl, Nat.le_of_ble_eq_true rfl⟩) rfl rfl (by decide) h1 (Nat.le_of_ble_eq_true rfl) rfl dX13_put_82 ⟨Nat.le_of_ble_eq_true rfl, Nat.le_of_ble_eq_true rfl⟩ (fun S' hp => ?_)
  refine k_sub [2] rfl ?_
  exact kk S' hp
theorem bX13_put_85 (B : Bd p s m args meth c cX13_put 5 (wsOf yX13_put cX13_put 5 (some .int)) RX13 w (some .int) "put") {v4 : Int32} {post : Int32 → St → Prop}  (hq : post v4 S) : K p l e rX13_put s m args below meth c 5 w 0 0 (MQ below (va_Qi post (fun S' t => Hd w S' t.heap) (wA w)) args s 0 0 (wA w)) S 85 [(4, .int v4)] [] := by
  refine k_iload B 0 rfl dX13_put_85 ?_
  exact ret_I B rfl dX13_put_87 (hq)
theorem bX13_take_0 (B : Bd p s m args meth c cX13_take 5 (wsOf yX13_take cX13_take 5 (some .int)) RX13 w (some .int) "take") {v0 : Nat} {v1 : Int32} {post : Int32 → St → Prop} {Q : State → Prop} (h1 : kd S v0 = 15) (hc : ConI l yX13_isParcel (wsOf yX13_isParcel cX13_isParcel 2 (some .boolean)) rX13_isParcel w (sI S 896 v0 0) [.ref v0, .int v1] post) (kk : ∀ (r : Int32) (S' : St), post r S' → K p l e rX13_take s m args below meth c 5 w 0 0 Q S' 10 [(0, .ref v0), (1, .int v1)] [.int r]) : K p l e rX13_take s m args below meth c 5 w 0 0 Q S 0 [(0, .ref v0), (1, .int v1)] [] := by
  refine k_aload_n B 0 rfl rfl dX13_take_0 ?_
  refine k_iconst (v := 0) B (by decide) dX13_take_1 ?_
  refine k_putI (f := 896) B 14 0 rfl (by decide) rfl (by decide) rfl rfl (fun w h => in_of (uw_14 w h)) (in_of qfRX13_95) tyX13 tyX13_ok nmX13 rfl (tyX13_ok 0 (by decide)) dX13_take_2 h1 ?_
  refine k_aload_n B 0 rfl rfl dX13_take_5 ?_
  refine k_iload_n B 1 rfl rfl dX13_take_6 ?_
  refine callV_I (st := []) B [.int v1] (hc) (cwV 1 B.1.2.2.2.2 (gV qlRX13_163 qiX13_isParcel qeX13_isParcel qzRX13 qcX13_isParcel) rfl rfl rfl (by decide +kernel) ⟨Nat.le_of_ble_eq_true rfl, Nat.le_of_ble_eq_true rfl⟩) rfl rfl (by decide) h1 (Nat.le_of_ble_eq_true rfl) rfl dX13_take_7 ⟨Nat.le_of_ble_eq_true rfl, Nat.le_of_ble_eq_true rfl⟩ (fun r S' hp => ?_)
  exact kk r S' hp
theorem bX13_take_10 (B : Bd p s m args meth c cX13_take 5 (wsOf yX13_take cX13_take 5 (some .int)) RX13 w (some .int) "take") {v0 : Nat} {v1 : Int32} {t0 : Int32} {Q : State → Prop}  (kt : ¬ t0 = 0 → K p l e rX13_take s m args below meth c 5 w 0 0 Q S 19 [(0, .ref v0), (1, .int v1)] []) (kf : t0 = 0 → K p l e rX13_take s m args below meth c 5 w 0 0 Q S 13 [(0, .ref v0)] []) : K p l e rX13_take s m args below meth c 5 w 0 0 Q S 10 [(0, .ref v0), (1, .int v1)] [.int t0] := by
  refine k_if_ne (tgt := 19) B dX13_take_10 (by decide) (fun c => ?_) (fun c => ?_)
  · exact kt c
  · refine k_sub [0] rfl ?_
    exact kf c
theorem bX13_take_13 (B : Bd p s m args meth c cX13_take 5 (wsOf yX13_take cX13_take 5 (some .int)) RX13 w (some .int) "take") {v0 : Nat} {post : Int32 → St → Prop} {Q : State → Prop} (hc : ConI l yX13_no (wsOf yX13_no cX13_no 2 (some .int)) rX13_no w S [.ref v0, .int 1] post) (h1 : kd S v0 = 15) (kk : ∀ (r : Int32) (S' : St), post r S' → K p l e rX13_take s m args below meth c 5 w 0 0 Q S' 18 [] [.int r]) : K p l e rX13_take s m args below meth c 5 w 0 0 Q S 13 [(0, .ref v0)] [] := by
  refine k_aload_n B 0 rfl rfl dX13_take_13 ?_
  refine k_iconst (v := 1) B (by decide) dX13_take_14 ?_
  refine callV_I (st := []) B [.int 1] (hc) (cwV 1 B.1.2.2.2.2 (gV qlRX13_120 qiX13_no qeX13_no qzRX13 qcX13_no) rfl rfl rfl (by decide +kernel) ⟨Nat.le_of_ble_eq_true rfl, Nat.le_of_ble_eq_true rfl⟩) rfl rfl (by decide) h1 (Nat.le_of_ble_eq_true rfl) rfl dX13_take_15 ⟨Nat.le_of_ble_eq_true rfl, Nat.le_of_ble_eq_true rfl⟩ (fun r S' hp => ?_)
  refine k_sub [] rfl ?_
  exact kk r S' hp
theorem bX13_take_18 (B : Bd p s m args meth c cX13_take 5 (wsOf yX13_take cX13_take 5 (some .int)) RX13 w (some .int) "take") {t0 : Int32} {post : Int32 → St → Prop}  (hq : post t0 S) : K p l e rX13_take s m args below meth c 5 w 0 0 (MQ below (va_Qi post (fun S' t => Hd w S' t.heap) (wA w)) args s 0 0 (wA w)) S 18 [] [.int t0] := by
  exact ret_I B rfl dX13_take_18 (hq)
theorem bX13_take_19 (B : Bd p s m args meth c cX13_take 5 (wsOf yX13_take cX13_take 5 (some .int)) RX13 w (some .int) "take") {v0 : Nat} {v1 : Int32} {x1 : Nat} {post : Int32 → St → Prop} {Q : State → Prop} (h1 : kd S v0 = 15) (h2 : gP S 919 v0 = some x1) (hc : ConI l yX12_vanOf (wsOf yX12_vanOf cX12_vanOf 4 (some .int)) rX12_vanOf w S [.ref x1, .int v1] post) (h3 : kd S x1 = 14) (kk : ∀ (r : Int32) (S' : St), post r S' → K p l e rX13_take s m args below meth c 5 w 0 0 Q S' 27 [(0, .ref v0), (1, .int v1)] [.int r]) : K p l e rX13_take s m args below meth c 5 w 0 0 Q S 19 [(0, .ref v0), (1, .int v1)] [] := by
  refine k_aload_n B 0 rfl rfl dX13_take_19 ?_
  refine k_getP (f := 919) (r := gP S 919 v0) B 14 23 rfl (by decide) rfl (by decide) rfl rfl (fun w h => in_of (uw_14 w h)) (in_of qfRX13_70) dX13_take_20 h1 rfl ?_
  rw [h2]; change K _ _ _ _ _ _ _ _ _ _ _ _ _ _ _ _ _ _ (.ref x1 :: _)
  refine k_iload_n B 1 rfl rfl dX13_take_23 ?_
  refine callV_I (st := []) B [.int v1] (hc) (cwV 1 B.1.2.2.2.2 (gV qlRX13_160 qiX12_vanOf qeX12_vanOf qzRX12 qcX12_vanOf) rfl rfl rfl (by decide +kernel) ⟨Nat.le_of_ble_eq_true rfl, Nat.le_of_ble_eq_true rfl⟩) rfl rfl (by decide) h3 (Nat.le_of_ble_eq_true rfl) rfl dX13_take_24 ⟨Nat.le_of_ble_eq_true rfl, Nat.le_of_ble_eq_true rfl⟩ (fun r S' hp => ?_)
  exact kk r S' hp
theorem bX13_take_27 (B : Bd p s m args meth c cX13_take 5 (wsOf yX13_take cX13_take 5 (some .int)) RX13 w (some .int) "take") {v0 : Nat} {v1 : Int32} {t0 : Int32} {Q : State → Prop}  (kt : ¬ t0 = (-1) → K p l e rX13_take s m args below meth c 5 w 0 0 Q S 39 [(0, .ref v0), (1, .int v1), (2, .int t0)] []) (kf : t0 = (-1) → K p l e rX13_take s m args below meth c 5 w 0 0 Q S 33 [(0, .ref v0)] []) : K p l e rX13_take s m args below meth c 5 w 0 0 Q S 27 [(0, .ref v0), (1, .int v1)] [.int t0] := by
  refine k_istore_n (lst' := [(2, .int t0), (0, .ref v0), (1, .int v1)]) B rfl (by decide) rfl dX13_take_27 ?_
  refine k_iload_n B 0 rfl rfl dX13_take_28 ?_
  refine k_iconst (v := (-1)) B (by decide) dX13_take_29 ?_
  refine k_icmp_ne (tgt := 39) B dX13_take_30 (by decide) (fun c => ?_) (fun c => ?_)
  · refine k_sub [1, 2, 0] rfl ?_
    exact kt c
  · refine k_sub [1] rfl ?_
    exact kf c
theorem bX13_take_33 (B : Bd p s m args meth c cX13_take 5 (wsOf yX13_take cX13_take 5 (some .int)) RX13 w (some .int) "take") {v0 : Nat} {post : Int32 → St → Prop} {Q : State → Prop} (hc : ConI l yX13_no (wsOf yX13_no cX13_no 2 (some .int)) rX13_no w S [.ref v0, .int 2] post) (h1 : kd S v0 = 15) (kk : ∀ (r : Int32) (S' : St), post r S' → K p l e rX13_take s m args below meth c 5 w 0 0 Q S' 38 [] [.int r]) : K p l e rX13_take s m args below meth c 5 w 0 0 Q S 33 [(0, .ref v0)] [] := by
  refine k_aload_n B 0 rfl rfl dX13_take_33 ?_
  refine k_iconst (v := 2) B (by decide) dX13_take_34 ?_
  refine callV_I (st := []) B [.int 2] (hc) (cwV 1 B.1.2.2.2.2 (gV qlRX13_120 qiX13_no qeX13_no qzRX13 qcX13_no) rfl rfl rfl (by decide +kernel) ⟨Nat.le_of_ble_eq_true rfl, Nat.le_of_ble_eq_true rfl⟩) rfl rfl (by decide) h1 (Nat.le_of_ble_eq_true rfl) rfl dX13_take_35 ⟨Nat.le_of_ble_eq_true rfl, Nat.le_of_ble_eq_true rfl⟩ (fun r S' hp => ?_)
  refine k_sub [] rfl ?_
  exact kk r S' hp
theorem bX13_take_38 (B : Bd p s m args meth c cX13_take 5 (wsOf yX13_take cX13_take 5 (some .int)) RX13 w (some .int) "take") {t0 : Int32} {post : Int32 → St → Prop}  (hq : post t0 S) : K p l e rX13_take s m args below meth c 5 w 0 0 (MQ below (va_Qi post (fun S' t => Hd w S' t.heap) (wA w)) args s 0 0 (wA w)) S 38 [] [.int t0] := by
  exact ret_I B rfl dX13_take_38 (hq)
theorem bX13_take_39 (B : Bd p s m args meth c cX13_take 5 (wsOf yX13_take cX13_take 5 (some .int)) RX13 w (some .int) "take") {v0 : Nat} {v1 : Int32} {v2 : Int32} {post : Int32 → St → Prop} {Q : State → Prop} (hc : ConI l yX13_routeCost (wsOf yX13_routeCost cX13_routeCost 2 (some .int)) rX13_routeCost w S [.ref v0, .int v2] post) (h1 : kd S v0 = 15) (kk : ∀ (r : Int32) (S' : St), post r S' → K p l e rX13_take s m args below meth c 5 w 0 0 Q S' 44 [(0, .ref v0), (1, .int v1), (2, .int v2)] [.int r]) : K p l e rX13_take s m args below meth c 5 w 0 0 Q S 39 [(0, .ref v0), (1, .int v1), (2, .int v2)] [] := by
  refine k_aload_n B 0 rfl rfl dX13_take_39 ?_
  refine k_iload_n B 2 rfl rfl dX13_take_40 ?_
  refine callV_I (st := []) B [.int v2] (hc) (cwV 1 B.1.2.2.2.2 (gV qlRX13_210 qiX13_routeCost qeX13_routeCost qzRX13 qcX13_routeCost) rfl rfl rfl (by decide +kernel) ⟨Nat.le_of_ble_eq_true rfl, Nat.le_of_ble_eq_true rfl⟩) rfl rfl (by decide) h1 (Nat.le_of_ble_eq_true rfl) rfl dX13_take_41 ⟨Nat.le_of_ble_eq_true rfl, Nat.le_of_ble_eq_true rfl⟩ (fun r S' hp => ?_)
  exact kk r S' hp
theorem bX13_take_44 (B : Bd p s m args meth c cX13_take 5 (wsOf yX13_take cX13_take 5 (some .int)) RX13 w (some .int) "take") {v0 : Nat} {v1 : Int32} {v2 : Int32} {t0 : Int32} {Q : State → Prop} (h1 : kd S v0 = 15) (kk : K p l e rX13_take s m args below meth c 5 w 0 0 Q S 53 [(0, .ref v0), (1, .int v1), (2, .int v2), (3, .int t0), (4, .int ((gI S 922 v0) - 1))] []) : K p l e rX13_take s m args below meth c 5 w 0 0 Q S 44 [(0, .ref v0), (1, .int v1), (2, .int v2)] [.int t0] := by
  refine k_istore_n (lst' := [(3, .int t0), (0, .ref v0), (1, .int v1), (2, .int v2)]) B rfl (by decide) rfl dX13_take_44 ?_
  refine k_aload_n B 1 rfl rfl dX13_take_45 ?_
  refine k_getI (f := 922) (v := gI S 922 v0) B 14 26 rfl (by decide) rfl (by decide) rfl rfl (fun w h => in_of (uw_14 w h)) (in_of qfRX13_172) dX13_take_46 h1 rfl ?_
  refine k_iconst (v := 1) B (by decide) dX13_take_49 ?_
  refine k_isub B dX13_take_50 ?_
  refine k_istore (lst' := [(4, .int ((gI S 922 v0) - 1)), (3, .int t0), (0, .ref v0), (1, .int v1), (2, .int v2)]) B (by decide) rfl dX13_take_51 ?_
  refine k_sub [2, 3, 4, 1, 0] rfl ?_
  exact kk
theorem bX13_take_53 (B : Bd p s m args meth c cX13_take 5 (wsOf yX13_take cX13_take 5 (some .int)) RX13 w (some .int) "take") {v0 : Nat} {v1 : Int32} {v2 : Int32} {v3 : Int32} {v4 : Int32} {Q : State → Prop}  (kt : v4 < 0 → K p l e rX13_take s m args below meth c 5 w 0 0 Q S 81 [(0, .ref v0), (2, .int v2), (3, .int v3)] []) (kf : ¬ v4 < 0 → K p l e rX13_take s m args below meth c 5 w 0 0 Q S 58 [(0, .ref v0), (1, .int v1), (2, .int v2), (3, .int v3), (4, .int v4)] []) : K p l e rX13_take s m args below meth c 5 w 0 0 Q S 53 [(0, .ref v0), (1, .int v1), (2, .int v2), (3, .int v3), (4, .int v4)] [] := by
  refine k_iload B 4 rfl dX13_take_53 ?_
  refine k_if_lt (tgt := 81) B dX13_take_55 (by decide) (fun c => ?_) (fun c => ?_)
  · refine k_sub [0, 2, 3] rfl ?_
    exact kt c
  · exact kf c
theorem bX13_take_58 (B : Bd p s m args meth c cX13_take 5 (wsOf yX13_take cX13_take 5 (some .int)) RX13 w (some .int) "take") {v0 : Nat} {v1 : Int32} {v2 : Int32} {v3 : Int32} {v4 : Int32} {x1 : Nat} {Q : State → Prop} (h1 : kd S v0 = 15) (h2 : gP S 921 v0 = some x1) (h3 : kd S x1 = 21) (h4 : vp_in v4 (ln S x1)) (kt : ¬ ((rI S x1) v4.toNatClampNeg) = v1 → K p l e rX13_take s m args below meth c 5 w 0 0 Q S 75 [(0, .ref v0), (1, .int v1), (2, .int v2), (3, .int v3), (4, .int v4)] []) (kf : ((rI S x1) v4.toNatClampNeg) = v1 → K p l e rX13_take s m args below meth c 5 w 0 0 Q S 69 [(0, .ref v0), (1, .int v1), (2, .int v2), (3, .int v3), (4, .int v4)] []) : K p l e rX13_take s m args below meth c 5 w 0 0 Q S 58 [(0, .ref v0), (1, .int v1), (2, .int v2), (3, .int v3), (4, .int v4)] [] := by
  refine k_aload_n B 0 rfl rfl dX13_take_58 ?_
  refine k_getP (f := 921) (r := gP S 921 v0) B 14 25 rfl (by decide) rfl (by decide) rfl rfl (fun w h => in_of (uw_14 w h)) (in_of qfRX13_77) dX13_take_59 h1 rfl ?_
  rw [h2]; change K _ _ _ _ _ _ _ _ _ _ _ _ _ _ _ _ _ _ (.ref x1 :: _)
  refine k_iload B 4 rfl dX13_take_62 ?_
  refine k_iald (v := (rI S x1) v4.toNatClampNeg) B dX13_take_64 h3 h4 rfl ?_
  refine k_iload_n B 1 rfl rfl dX13_take_65 ?_
  refine k_icmp_ne (tgt := 75) B dX13_take_66 (by decide) (fun c => ?_) (fun c => ?_)
  · exact kt c
  · exact kf c
theorem bX13_take_69 (B : Bd p s m args meth c cX13_take 5 (wsOf yX13_take cX13_take 5 (some .int)) RX13 w (some .int) "take") {v0 : Nat} {v1 : Int32} {v2 : Int32} {v3 : Int32} {v4 : Int32} {post : St → Prop} {Q : State → Prop} (hc : ConV l yX13_remove (wsOf yX13_remove cX13_remove 2 none) rX13_remove w S [.ref v0, .int v4] post) (h1 : kd S v0 = 15) (kk : ∀ (S' : St), post S' → K p l e rX13_take s m args below meth c 5 w 0 0 Q S' 75 [(0, .ref v0), (1, .int v1), (2, .int v2), (3, .int v3), (4, .int v4)] []) : K p l e rX13_take s m args below meth c 5 w 0 0 Q S 69 [(0, .ref v0), (1, .int v1), (2, .int v2), (3, .int v3), (4, .int v4)] [] := by
  refine k_aload_n B 0 rfl rfl dX13_take_69 ?_
  refine k_iload B 4 rfl dX13_take_70 ?_
  refine callV_V (st := []) B [.int v4] (hc) (cwV 1 B.1.2.2.2.2 (gV qlRX13_231 qiX13_remove qeX13_remove qzRX13 qcX13_remove) rfl rfl rfl (by decide +kernel) ⟨Nat.le_of_ble_eq_true rfl, Nat.le_of_ble_eq_true rfl⟩) rfl rfl (by decide) h1 (Nat.le_of_ble_eq_true rfl) rfl dX13_take_72 ⟨Nat.le_of_ble_eq_true rfl, Nat.le_of_ble_eq_true rfl⟩ (fun S' hp => ?_)
  exact kk S' hp
theorem bX13_take_75 (B : Bd p s m args meth c cX13_take 5 (wsOf yX13_take cX13_take 5 (some .int)) RX13 w (some .int) "take") {v0 : Nat} {v1 : Int32} {v2 : Int32} {v3 : Int32} {v4 : Int32} {Q : State → Prop}  (kk : K p l e rX13_take s m args below meth c 5 w 0 0 Q S 53 [(0, .ref v0), (1, .int v1), (2, .int v2), (3, .int v3), (4, .int (v4 + (-1)))] []) : K p l e rX13_take s m args below meth c 5 w 0 0 Q S 75 [(0, .ref v0), (1, .int v1), (2, .int v2), (3, .int v3), (4, .int v4)] [] := by
  refine k_iinc (v := v4 + (-1)) (lst' := [(4, .int (v4 + (-1))), (0, .ref v0), (1, .int v1), (2, .int v2), (3, .int v3)]) B 4 rfl (congrArg (fun z => v4 + z) (by decide)) (by decide) rfl dX13_take_75 ?_
  refine k_goto (tgt := 53) B dX13_take_78 (by decide) ?_
  refine k_sub [1, 2, 3, 4, 0] rfl ?_
  exact kk
theorem bX13_take_81 (B : Bd p s m args meth c cX13_take 5 (wsOf yX13_take cX13_take 5 (some .int)) RX13 w (some .int) "take") {v0 : Nat} {v2 : Int32} {v3 : Int32} {post : St → Prop} {Q : State → Prop} (hc : ConV l yX13_keep (wsOf yX13_keep cX13_keep 2 none) rX13_keep w S [.ref v0, .int v2] post) (h1 : kd S v0 = 15) (kk : ∀ (S' : St), post S' → K p l e rX13_take s m args below meth c 5 w 0 0 Q S' 86 [(0, .ref v0), (2, .int v2), (3, .int v3)] []) : K p l e rX13_take s m args below meth c 5 w 0 0 Q S 81 [(0, .ref v0), (2, .int v2), (3, .int v3)] [] := by
  refine k_aload_n B 0 rfl rfl dX13_take_81 ?_
  refine k_iload_n B 1 rfl rfl dX13_take_82 ?_
  refine callV_V (st := []) B [.int v2] (hc) (cwV 1 B.1.2.2.2.2 (gV qlRX13_228 qiX13_keep qeX13_keep qzRX13 qcX13_keep) rfl rfl rfl (by decide +kernel) ⟨Nat.le_of_ble_eq_true rfl, Nat.le_of_ble_eq_true rfl⟩) rfl rfl (by decide) h1 (Nat.le_of_ble_eq_true rfl) rfl dX13_take_83 ⟨Nat.le_of_ble_eq_true rfl, Nat.le_of_ble_eq_true rfl⟩ (fun S' hp => ?_)
  exact kk S' hp
theorem bX13_take_86 (B : Bd p s m args meth c cX13_take 5 (wsOf yX13_take cX13_take 5 (some .int)) RX13 w (some .int) "take") {v0 : Nat} {v2 : Int32} {v3 : Int32} {post : Int32 → St → Prop} {Q : State → Prop} (hc : ConI l yX13_cost (wsOf yX13_cost cX13_cost 14 (some .int)) rX13_cost w S [.ref v0, .int v2] post) (h1 : kd S v0 = 15) (kk : ∀ (r : Int32) (S' : St), post r S' → K p l e rX13_take s m args below meth c 5 w 0 0 Q S' 92 [] [.int r, .int v3]) : K p l e rX13_take s m args below meth c 5 w 0 0 Q S 86 [(0, .ref v0), (2, .int v2), (3, .int v3)] [] := by
  refine k_iload_n B 2 rfl rfl dX13_take_86 ?_
  refine k_aload_n B 0 rfl rfl dX13_take_87 ?_
  refine k_iload_n B 1 rfl rfl dX13_take_88 ?_
  refine callV_I (st := [.int v3]) B [.int v2] (hc) (cwV 1 B.1.2.2.2.2 (gV qlRX13_207 qiX13_cost qeX13_cost qzRX13 qcX13_cost) rfl rfl rfl (by decide +kernel) ⟨Nat.le_of_ble_eq_true rfl, Nat.le_of_ble_eq_true rfl⟩) rfl rfl (by decide) h1 (Nat.le_of_ble_eq_true rfl) rfl dX13_take_89 ⟨Nat.le_of_ble_eq_true rfl, Nat.le_of_ble_eq_true rfl⟩ (fun r S' hp => ?_)
  refine k_sub [] rfl ?_
  exact kk r S' hp
theorem bX13_take_92 (B : Bd p s m args meth c cX13_take 5 (wsOf yX13_take cX13_take 5 (some .int)) RX13 w (some .int) "take") {t0 : Int32} {t1 : Int32} {post : Int32 → St → Prop}  (hq : post (t0 - t1) S) : K p l e rX13_take s m args below meth c 5 w 0 0 (MQ below (va_Qi post (fun S' t => Hd w S' t.heap) (wA w)) args s 0 0 (wA w)) S 92 [] [.int t1, .int t0] := by
  refine k_isub B dX13_take_92 ?_
  exact ret_I B rfl dX13_take_93 (hq)
theorem bX13_route_0 (B : Bd p s m args meth c cX13_route 3 (wsOf yX13_route cX13_route 3 (some .int)) RX13 w (some .int) "route") {v0 : Nat} {v1 : Int32} {v2 : Int32} {post : Int32 → St → Prop} {Q : State → Prop} (h1 : kd S v0 = 15) (hc : ConI l yX13_isVan (wsOf yX13_isVan cX13_isVan 2 (some .boolean)) rX13_isVan w (sI S 896 v0 0) [.ref v0, .int v1] post) (kk : ∀ (r : Int32) (S' : St), post r S' → K p l e rX13_route s m args below meth c 3 w 0 0 Q S' 10 [(0, .ref v0), (1, .int v1), (2, .int v2)] [.int r]) : K p l e rX13_route s m args below meth c 3 w 0 0 Q S 0 [(0, .ref v0), (1, .int v1), (2, .int v2)] [] := by
  refine k_aload_n B 0 rfl rfl dX13_route_0 ?_
  refine k_iconst (v := 0) B (by decide) dX13_route_1 ?_
  refine k_putI (f := 896) B 14 0 rfl (by decide) rfl (by decide) rfl rfl (fun w h => in_of (uw_14 w h)) (in_of qfRX13_95) tyX13 tyX13_ok nmX13 rfl (tyX13_ok 0 (by decide)) dX13_route_2 h1 ?_
  refine k_aload_n B 0 rfl rfl dX13_route_5 ?_
  refine k_iload_n B 1 rfl rfl dX13_route_6 ?_
  refine callV_I (st := []) B [.int v1] (hc) (cwV 1 B.1.2.2.2.2 (gV qlRX13_218 qiX13_isVan qeX13_isVan qzRX13 qcX13_isVan) rfl rfl rfl (by decide +kernel) ⟨Nat.le_of_ble_eq_true rfl, Nat.le_of_ble_eq_true rfl⟩) rfl rfl (by decide) h1 (Nat.le_of_ble_eq_true rfl) rfl dX13_route_7 ⟨Nat.le_of_ble_eq_true rfl, Nat.le_of_ble_eq_true rfl⟩ (fun r S' hp => ?_)
  exact kk r S' hp
theorem bX13_route_10 (B : Bd p s m args meth c cX13_route 3 (wsOf yX13_route cX13_route 3 (some .int)) RX13 w (some .int) "route") {v0 : Nat} {v1 : Int32} {v2 : Int32} {t0 : Int32} {Q : State → Prop}  (kt : t0 = 0 → K p l e rX13_route s m args below meth c 3 w 0 0 Q S 49 [(0, .ref v0)] []) (kf : ¬ t0 = 0 → K p l e rX13_route s m args below meth c 3 w 0 0 Q S 13 [(0, .ref v0), (1, .int v1), (2, .int v2)] []) : K p l e rX13_route s m args below meth c 3 w 0 0 Q S 10 [(0, .ref v0), (1, .int v1), (2, .int v2)] [.int t0] := by
  refine k_if_eq (tgt := 49) B dX13_route_10 (by decide) (fun c => ?_) (fun c => ?_)
  · refine k_sub [0] rfl ?_
    exact kt c
  · exact kf c
theorem bX13_route_13 (B : Bd p s m args meth c cX13_route 3 (wsOf yX13_route cX13_route 3 (some .int)) RX13 w (some .int) "route") {v0 : Nat} {v1 : Int32} {v2 : Int32} {x1 : Nat} {x2 : Nat} {post : Int32 → St → Prop} {Q : State → Prop} (h1 : kd S v0 = 15) (h2 : gP S 919 v0 = some x1) (h3 : kd S x1 = 14) (h4 : gP S 840 x1 = some x2) (h5 : kd S x2 = 21) (h6 : vp_in v1 (ln S x2)) (hc : ConI l yX13_isIn (wsOf yX13_isIn cX13_isIn 3 (some .boolean)) rX13_isIn w S [.int v2, .int 0, .int (((rI S x2) v1.toNatClampNeg) - 1)] post) (kk : ∀ (r : Int32) (S' : St), post r S' → K p l e rX13_route s m args below meth c 3 w 0 0 Q S' 29 [(0, .ref v0), (1, .int v1), (2, .int v2)] [.int r]) : K p l e rX13_route s m args below meth c 3 w 0 0 Q S 13 [(0, .ref v0), (1, .int v1), (2, .int v2)] [] := by
  refine k_iload_n B 2 rfl rfl dX13_route_13 ?_
  refine k_iconst (v := 0) B (by decide) dX13_route_14 ?_
  refine k_aload_n B 0 rfl rfl dX13_route_15 ?_
  refine k_getP (f := 919) (r := gP S 919 v0) B 14 23 rfl (by decide) rfl (by decide) rfl rfl (fun w h => in_of (uw_14 w h)) (in_of qfRX13_70) dX13_route_16 h1 rfl ?_
  rw [h2]; change K _ _ _ _ _ _ _ _ _ _ _ _ _ _ _ _ _ _ (.ref x1 :: _)
  refine k_getPN (f := 840) (r := gP S 840 x1) B 13 8 rfl (by decide) rfl (by decide) rfl rfl (fun w h => in_of (uw_13 w h)) "LastMileModel" (nzF_5 B.2.2.2.1.2.2.2.1) dX13_route_19 h3 rfl ?_
  rw [h4]; change K _ _ _ _ _ _ _ _ _ _ _ _ _ _ _ _ _ _ (.ref x2 :: _)
  refine k_iload_n B 1 rfl rfl dX13_route_22 ?_
  refine k_iald (v := (rI S x2) v1.toNatClampNeg) B dX13_route_23 h5 h6 rfl ?_
  refine k_iconst (v := 1) B (by decide) dX13_route_24 ?_
  refine k_isub B dX13_route_25 ?_
  refine callS_I (st := []) B [.int v2, .int 0, .int (((rI S x2) v1.toNatClampNeg) - 1)] (hc) (va_cwS 3 B.1.2.2.2.2 (gS qlRX13_98 qsX13_isIn qzRX13 qcX13_isIn) rfl rfl rfl (by decide +kernel) ⟨Nat.le_of_ble_eq_true rfl, Nat.le_of_ble_eq_true rfl⟩) rfl (Nat.le_of_ble_eq_true rfl) rfl dX13_route_26 ⟨Nat.le_of_ble_eq_true rfl, Nat.le_of_ble_eq_true rfl⟩ (fun r S' hp => ?_)
  exact kk r S' hp
theorem bX13_route_29 (B : Bd p s m args meth c cX13_route 3 (wsOf yX13_route cX13_route 3 (some .int)) RX13 w (some .int) "route") {v0 : Nat} {v1 : Int32} {v2 : Int32} {t0 : Int32} {Q : State → Prop}  (kt : t0 = 0 → K p l e rX13_route s m args below meth c 3 w 0 0 Q S 49 [(0, .ref v0)] []) (kf : ¬ t0 = 0 → K p l e rX13_route s m args below meth c 3 w 0 0 Q S 32 [(0, .ref v0), (1, .int v1), (2, .int v2)] []) : K p l e rX13_route s m args below meth c 3 w 0 0 Q S 29 [(0, .ref v0), (1, .int v1), (2, .int v2)] [.int t0] := by
  refine k_if_eq (tgt := 49) B dX13_route_29 (by decide) (fun c => ?_) (fun c => ?_)
  · refine k_sub [0] rfl ?_
    exact kt c
  · exact kf c
theorem bX13_route_32 (B : Bd p s m args meth c cX13_route 3 (wsOf yX13_route cX13_route 3 (some .int)) RX13 w (some .int) "route") {v0 : Nat} {v1 : Int32} {v2 : Int32} {x1 : Nat} {x2 : Nat} {Q : State → Prop} (h1 : kd S v0 = 15) (h2 : gP S 919 v0 = some x1) (h3 : kd S x1 = 14) (h4 : gP S 841 x1 = some x2) (h5 : kd S x2 = 21) (h6 : vp_in ((12 * v1) + v2) (ln S x2)) (kk : K p l e rX13_route s m args below meth c 3 w 0 0 Q S 54 [] [.int ((rI S x2) ((12 * v1) + v2).toNatClampNeg)]) : K p l e rX13_route s m args below meth c 3 w 0 0 Q S 32 [(0, .ref v0), (1, .int v1), (2, .int v2)] [] := by
  refine k_aload_n B 0 rfl rfl dX13_route_32 ?_
  refine k_getP (f := 919) (r := gP S 919 v0) B 14 23 rfl (by decide) rfl (by decide) rfl rfl (fun w h => in_of (uw_14 w h)) (in_of qfRX13_70) dX13_route_33 h1 rfl ?_
  rw [h2]; change K _ _ _ _ _ _ _ _ _ _ _ _ _ _ _ _ _ _ (.ref x1 :: _)
  refine k_getPN (f := 841) (r := gP S 841 x1) B 13 9 rfl (by decide) rfl (by decide) rfl rfl (fun w h => in_of (uw_13 w h)) "LastMileModel" (nzF_6 B.2.2.2.1.2.2.2.1) dX13_route_36 h3 rfl ?_
  rw [h4]; change K _ _ _ _ _ _ _ _ _ _ _ _ _ _ _ _ _ _ (.ref x2 :: _)
  refine k_bipush (v := 12) B (by decide) dX13_route_39 ?_
  refine k_iload_n B 1 rfl rfl dX13_route_41 ?_
  refine k_imul B dX13_route_42 ?_
  refine k_iload_n B 2 rfl rfl dX13_route_43 ?_
  refine k_iadd B dX13_route_44 ?_
  refine k_iald (v := (rI S x2) ((12 * v1) + v2).toNatClampNeg) B dX13_route_45 h5 h6 rfl ?_
  refine k_goto (tgt := 54) B dX13_route_46 (by decide) ?_
  refine k_sub [] rfl ?_
  exact kk
theorem bX13_route_49 (B : Bd p s m args meth c cX13_route 3 (wsOf yX13_route cX13_route 3 (some .int)) RX13 w (some .int) "route") {v0 : Nat} {post : Int32 → St → Prop} {Q : State → Prop} (hc : ConI l yX13_no (wsOf yX13_no cX13_no 2 (some .int)) rX13_no w S [.ref v0, .int 1] post) (h1 : kd S v0 = 15) (kk : ∀ (r : Int32) (S' : St), post r S' → K p l e rX13_route s m args below meth c 3 w 0 0 Q S' 54 [] [.int r]) : K p l e rX13_route s m args below meth c 3 w 0 0 Q S 49 [(0, .ref v0)] [] := by
  refine k_aload_n B 0 rfl rfl dX13_route_49 ?_
  refine k_iconst (v := 1) B (by decide) dX13_route_50 ?_
  refine callV_I (st := []) B [.int 1] (hc) (cwV 1 B.1.2.2.2.2 (gV qlRX13_120 qiX13_no qeX13_no qzRX13 qcX13_no) rfl rfl rfl (by decide +kernel) ⟨Nat.le_of_ble_eq_true rfl, Nat.le_of_ble_eq_true rfl⟩) rfl rfl (by decide) h1 (Nat.le_of_ble_eq_true rfl) rfl dX13_route_51 ⟨Nat.le_of_ble_eq_true rfl, Nat.le_of_ble_eq_true rfl⟩ (fun r S' hp => ?_)
  refine k_sub [] rfl ?_
  exact kk r S' hp
theorem bX13_route_54 (B : Bd p s m args meth c cX13_route 3 (wsOf yX13_route cX13_route 3 (some .int)) RX13 w (some .int) "route") {t0 : Int32} {post : Int32 → St → Prop}  (hq : post t0 S) : K p l e rX13_route s m args below meth c 3 w 0 0 (MQ below (va_Qi post (fun S' t => Hd w S' t.heap) (wA w)) args s 0 0 (wA w)) S 54 [] [.int t0] := by
  exact ret_I B rfl dX13_route_54 (hq)
theorem bX13_vanTold_0 (B : Bd p s m args meth c cX13_vanTold 5 (wsOf yX13_vanTold cX13_vanTold 5 (some .int)) RX13 w (some .int) "vanTold") {v0 : Nat} {v1 : Int32} {v2 : Int32} {post : Int32 → St → Prop} {k n : Nat} {Q : State → Prop} (hc : ConI l yX13_routeCost (wsOf yX13_routeCost cX13_routeCost 2 (some .int)) rX13_routeCost w S [.ref v0, .int v1] post) (h1 : k + 0 ≤ rX13_vanTold.cells) (h2 : n + 0 ≤ rX13_vanTold.slots) (h3 : kd S v0 = 15) (kk : ∀ (r : Int32) (S' : St), post r S' → K p l e rX13_vanTold s m args below meth c 5 w k n Q S' 5 [(0, .ref v0), (1, .int v1), (2, .int v2)] [.int r]) : K p l e rX13_vanTold s m args below meth c 5 w k n Q S 0 [(0, .ref v0), (1, .int v1), (2, .int v2)] [] := by
  refine k_aload_n B 0 rfl rfl dX13_vanTold_0 ?_
  refine k_iload_n B 1 rfl rfl dX13_vanTold_1 ?_
  refine callV_I (st := []) B [.int v1] (hc) (cwV 1 B.1.2.2.2.2 (gV qlRX13_210 qiX13_routeCost qeX13_routeCost qzRX13 qcX13_routeCost) rfl rfl rfl (by decide +kernel) ⟨Nat.le_of_ble_eq_true rfl, Nat.le_of_ble_eq_true rfl⟩) rfl rfl (by decide) h3 (Nat.le_of_ble_eq_true rfl) rfl dX13_vanTold_2 ⟨h1, h2⟩ (fun r S' hp => ?_)
  exact kk r S' hp
theorem bX13_vanTold_5 (B : Bd p s m args meth c cX13_vanTold 5 (wsOf yX13_vanTold cX13_vanTold 5 (some .int)) RX13 w (some .int) "vanTold") {v0 : Nat} {v1 : Int32} {v2 : Int32} {t0 : Int32} {k n : Nat} {Q : State → Prop} (h1 : k + 1 ≤ rX13_vanTold.cells) (h2 : n + 10 ≤ rX13_vanTold.slots) (kk : ∀ q8 : Nat, kd S q8 = 0 → K p l e rX13_vanTold s m args below meth c 5 w (k + 1) (n + 10) Q (nw S q8 21 10) 10 [(0, .ref v0), (1, .int v1), (2, .int v2), (3, .int t0)] [.ref q8]) : K p l e rX13_vanTold s m args below meth c 5 w k n Q S 5 [(0, .ref v0), (1, .int v1), (2, .int v2)] [.int t0] := by
  refine k_istore_n (lst' := [(3, .int t0), (0, .ref v0), (1, .int v1), (2, .int v2)]) B rfl (by decide) rfl dX13_vanTold_5 ?_
  refine k_bipush (v := 10) B (by decide) dX13_vanTold_6 ?_
  refine k_newI (N' := 10) B (in_of qarrI) (by decide) (by decide) (by decide) h1 h2 dX13_vanTold_8 (fun q8 f8 => ?_)
  refine k_sub [1, 2, 3, 0] rfl ?_
  exact kk q8 f8
theorem bX13_vanTold_10 (B : Bd p s m args meth c cX13_vanTold 5 (wsOf yX13_vanTold cX13_vanTold 5 (some .int)) RX13 w (some .int) "vanTold") {v0 : Nat} {v1 : Int32} {v2 : Int32} {v3 : Int32} {t0 : Nat} {x1 : Nat} {x2 : Nat} {x3 : Nat} {k n : Nat} {Q : State → Prop} (h1 : kd S v0 = 15) (h2 : gP S 910 v0 = some x1) (h3 : kd S x1 = 21) (h4 : vp_in v1 (ln S x1)) (h5 : kd S t0 = 21) (h6 : vp_in 0 (ln S t0)) (h7 : gP S 911 v0 = some x2) (h8 : kd S x2 = 21) (h9 : vp_in v1 (ln S x2)) (h10 : vp_in 1 (ln S t0)) (h11 : gP S 912 v0 = some x3) (h12 : kd S x3 = 21) (h13 : vp_in v1 (ln S x3)) (h14 : vp_in 2 (ln S t0)) (h15 : vp_in 3 (ln S t0)) (h16 : vp_in 4 (ln S t0)) (h17 : vp_in 5 (ln S t0)) (h18 : vp_in 6 (ln S t0)) (h19 : vp_in 7 (ln S t0)) (h20 : vp_in 8 (ln S t0)) (h21 : vp_in 9 (ln S t0)) (kk : K p l e rX13_vanTold s m args below meth c 5 w k n Q (sRI S t0 (va_up (va_up (va_up (va_up (va_up (va_up (va_up (va_up (va_up (va_up (rI S t0) (0 : Int32).toNatClampNeg ((rI S x1) v1.toNatClampNeg)) (1 : Int32).toNatClampNeg ((rI (sRI S t0 (va_up (rI S t0) (0 : Int32).toNatClampNeg ((rI S x1) v1.toNatClampNeg))) x2) v1.toNatClampNeg)) (2 : Int32).toNatClampNeg ((rI (sRI S t0 (va_up (va_up (rI S t0) (0 : Int32).toNatClampNeg ((rI S x1) v1.toNatClampNeg)) (1 : Int32).toNatClampNeg ((rI (sRI S t0 (va_up (rI S t0) (0 : Int32).toNatClampNeg ((rI S x1) v1.toNatClampNeg))) x2) v1.toNatClampNeg))) x3) v1.toNatClampNeg)) (3 : Int32).toNatClampNeg (gI S 922 v0)) (4 : Int32).toNatClampNeg v3) (5 : Int32).toNatClampNeg (gI S 926 v0)) (6 : Int32).toNatClampNeg (gI S 927 v0)) (7 : Int32).toNatClampNeg (gI S 928 v0)) (8 : Int32).toNatClampNeg (gI S 929 v0)) (9 : Int32).toNatClampNeg (gI S 930 v0))) 87 [(2, .int v2)] [.ref t0]) : K p l e rX13_vanTold s m args below meth c 5 w k n Q S 10 [(0, .ref v0), (1, .int v1), (2, .int v2), (3, .int v3)] [.ref t0] := by
  refine k_dup B rfl dX13_vanTold_10 ?_
  refine k_iconst (v := 0) B (by decide) dX13_vanTold_11 ?_
  refine k_aload_n B 0 rfl rfl dX13_vanTold_12 ?_
  refine k_getP (f := 910) (r := gP S 910 v0) B 14 14 rfl (by decide) rfl (by decide) rfl rfl (fun w h => in_of (uw_14 w h)) (in_of qfRX13_41) dX13_vanTold_13 h1 rfl ?_
  rw [h2]; change K _ _ _ _ _ _ _ _ _ _ _ _ _ _ _ _ _ _ (.ref x1 :: _)
  refine k_iload_n B 1 rfl rfl dX13_vanTold_16 ?_
  refine k_iald (v := (rI S x1) v1.toNatClampNeg) B dX13_vanTold_17 h3 h4 rfl ?_
  refine k_iast (g := rI S t0) (S' := sRI S t0 (va_up (rI S t0) (0 : Int32).toNatClampNeg ((rI S x1) v1.toNatClampNeg))) B dX13_vanTold_18 h5 h6 rfl rfl ?_
  refine k_dup B rfl dX13_vanTold_19 ?_
  refine k_iconst (v := 1) B (by decide) dX13_vanTold_20 ?_
  refine k_aload_n B 0 rfl rfl dX13_vanTold_21 ?_
  refine k_getP (f := 911) (r := gP S 911 v0) B 14 15 rfl (by decide) rfl (by decide) rfl rfl (fun w h => in_of (uw_14 w h)) (in_of qfRX13_44) dX13_vanTold_22 h1 rfl ?_
  rw [h7]; change K _ _ _ _ _ _ _ _ _ _ _ _ _ _ _ _ _ _ (.ref x2 :: _)
  refine k_iload_n B 1 rfl rfl dX13_vanTold_25 ?_
  refine k_iald (v := (rI (sRI S t0 (va_up (rI S t0) (0 : Int32).toNatClampNeg ((rI S x1) v1.toNatClampNeg))) x2) v1.toNatClampNeg) B dX13_vanTold_26 h8 h9 rfl ?_
  refine k_iast (g := va_up (rI S t0) (0 : Int32).toNatClampNeg ((rI S x1) v1.toNatClampNeg)) (S' := sRI S t0 (va_up (va_up (rI S t0) (0 : Int32).toNatClampNeg ((rI S x1) v1.toNatClampNeg)) (1 : Int32).toNatClampNeg ((rI (sRI S t0 (va_up (rI S t0) (0 : Int32).toNatClampNeg ((rI S x1) v1.toNatClampNeg))) x2) v1.toNatClampNeg))) B dX13_vanTold_27 h5 h10 (by simp [kd_sI, kd_sP, kd_sRI, kd_sRP, kd_nw, gI_sI, gI_sP, gI_sRI, gI_sRP, gI_nw, gP_sI, gP_sP, gP_sRI, gP_sRP, gP_nw, ln_sI, ln_sP, ln_sRI, ln_sRP, ln_nw, rI_sI, rI_sP, rI_sRI, rI_sRP, rI_nw, rP_sI, rP_sP, rP_sRI, rP_sRP, rP_nw, va_up_self]) (sRI_sRI ..) ?_
  refine k_dup B rfl dX13_vanTold_28 ?_
  refine k_iconst (v := 2) B (by decide) dX13_vanTold_29 ?_
  refine k_aload_n B 0 rfl rfl dX13_vanTold_30 ?_
  refine k_getP (f := 912) (r := gP S 912 v0) B 14 16 rfl (by decide) rfl (by decide) rfl rfl (fun w h => in_of (uw_14 w h)) (in_of qfRX13_47) dX13_vanTold_31 h1 rfl ?_
  rw [h11]; change K _ _ _ _ _ _ _ _ _ _ _ _ _ _ _ _ _ _ (.ref x3 :: _)
  refine k_iload_n B 1 rfl rfl dX13_vanTold_34 ?_
  refine k_iald (v := (rI (sRI S t0 (va_up (va_up (rI S t0) (0 : Int32).toNatClampNeg ((rI S x1) v1.toNatClampNeg)) (1 : Int32).toNatClampNeg ((rI (sRI S t0 (va_up (rI S t0) (0 : Int32).toNatClampNeg ((rI S x1) v1.toNatClampNeg))) x2) v1.toNatClampNeg))) x3) v1.toNatClampNeg) B dX13_vanTold_35 h12 h13 rfl ?_
  refine k_iast (g := va_up (va_up (rI S t0) (0 : Int32).toNatClampNeg ((rI S x1) v1.toNatClampNeg)) (1 : Int32).toNatClampNeg ((rI (sRI S t0 (va_up (rI S t0) (0 : Int32).toNatClampNeg ((rI S x1) v1.toNatClampNeg))) x2) v1.toNatClampNeg)) (S' := sRI S t0 (va_up (va_up (va_up (rI S t0) (0 : Int32).toNatClampNeg ((rI S x1) v1.toNatClampNeg)) (1 : Int32).toNatClampNeg ((rI (sRI S t0 (va_up (rI S t0) (0 : Int32).toNatClampNeg ((rI S x1) v1.toNatClampNeg))) x2) v1.toNatClampNeg)) (2 : Int32).toNatClampNeg ((rI (sRI S t0 (va_up (va_up (rI S t0) (0 : Int32).toNatClampNeg ((rI S x1) v1.toNatClampNeg)) (1 : Int32).toNatClampNeg ((rI (sRI S t0 (va_up (rI S t0) (0 : Int32).toNatClampNeg ((rI S x1) v1.toNatClampNeg))) x2) v1.toNatClampNeg))) x3) v1.toNatClampNeg))) B dX13_vanTold_36 h5 h14 (by simp [kd_sI, kd_sP, kd_sRI, kd_sRP, kd_nw, gI_sI, gI_sP, gI_sRI, gI_sRP, gI_nw, gP_sI, gP_sP, gP_sRI, gP_sRP, gP_nw, ln_sI, ln_sP, ln_sRI, ln_sRP, ln_nw, rI_sI, rI_sP, rI_sRI, rI_sRP, rI_nw, rP_sI, rP_sP, rP_sRI, rP_sRP, rP_nw, va_up_self]) (sRI_sRI ..) ?_
  refine k_dup B rfl dX13_vanTold_37 ?_
  refine k_iconst (v := 3) B (by decide) dX13_vanTold_38 ?_
  refine k_aload_n B 0 rfl rfl dX13_vanTold_39 ?_
  refine k_getI (f := 922) (v := gI S 922 v0) B 14 26 rfl (by decide) rfl (by decide) rfl rfl (fun w h => in_of (uw_14 w h)) (in_of qfRX13_172) dX13_vanTold_40 h1 rfl ?_
  refine k_iast (g := va_up (va_up (va_up (rI S t0) (0 : Int32).toNatClampNeg ((rI S x1) v1.toNatClampNeg)) (1 : Int32).toNatClampNeg ((rI (sRI S t0 (va_up (rI S t0) (0 : Int32).toNatClampNeg ((rI S x1) v1.toNatClampNeg))) x2) v1.toNatClampNeg)) (2 : Int32).toNatClampNeg ((rI (sRI S t0 (va_up (va_up (rI S t0) (0 : Int32).toNatClampNeg ((rI S x1) v1.toNatClampNeg)) (1 : Int32).toNatClampNeg ((rI (sRI S t0 (va_up (rI S t0) (0 : Int32).toNatClampNeg ((rI S x1) v1.toNatClampNeg))) x2) v1.toNatClampNeg))) x3) v1.toNatClampNeg)) (S' := sRI S t0 (va_up (va_up (va_up (va_up (rI S t0) (0 : Int32).toNatClampNeg ((rI S x1) v1.toNatClampNeg)) (1 : Int32).toNatClampNeg ((rI (sRI S t0 (va_up (rI S t0) (0 : Int32).toNatClampNeg ((rI S x1) v1.toNatClampNeg))) x2) v1.toNatClampNeg)) (2 : Int32).toNatClampNeg ((rI (sRI S t0 (va_up (va_up (rI S t0) (0 : Int32).toNatClampNeg ((rI S x1) v1.toNatClampNeg)) (1 : Int32).toNatClampNeg ((rI (sRI S t0 (va_up (rI S t0) (0 : Int32).toNatClampNeg ((rI S x1) v1.toNatClampNeg))) x2) v1.toNatClampNeg))) x3) v1.toNatClampNeg)) (3 : Int32).toNatClampNeg (gI S 922 v0))) B dX13_vanTold_43 h5 h15 (by simp [kd_sI, kd_sP, kd_sRI, kd_sRP, kd_nw, gI_sI, gI_sP, gI_sRI, gI_sRP, gI_nw, gP_sI, gP_sP, gP_sRI, gP_sRP, gP_nw, ln_sI, ln_sP, ln_sRI, ln_sRP, ln_nw, rI_sI, rI_sP, rI_sRI, rI_sRP, rI_nw, rP_sI, rP_sP, rP_sRI, rP_sRP, rP_nw, va_up_self]) (sRI_sRI ..) ?_
  refine k_dup B rfl dX13_vanTold_44 ?_
  refine k_iconst (v := 4) B (by decide) dX13_vanTold_45 ?_
  refine k_iload_n B 3 rfl rfl dX13_vanTold_46 ?_
  refine k_iast (g := va_up (va_up (va_up (va_up (rI S t0) (0 : Int32).toNatClampNeg ((rI S x1) v1.toNatClampNeg)) (1 : Int32).toNatClampNeg ((rI (sRI S t0 (va_up (rI S t0) (0 : Int32).toNatClampNeg ((rI S x1) v1.toNatClampNeg))) x2) v1.toNatClampNeg)) (2 : Int32).toNatClampNeg ((rI (sRI S t0 (va_up (va_up (rI S t0) (0 : Int32).toNatClampNeg ((rI S x1) v1.toNatClampNeg)) (1 : Int32).toNatClampNeg ((rI (sRI S t0 (va_up (rI S t0) (0 : Int32).toNatClampNeg ((rI S x1) v1.toNatClampNeg))) x2) v1.toNatClampNeg))) x3) v1.toNatClampNeg)) (3 : Int32).toNatClampNeg (gI S 922 v0)) (S' := sRI S t0 (va_up (va_up (va_up (va_up (va_up (rI S t0) (0 : Int32).toNatClampNeg ((rI S x1) v1.toNatClampNeg)) (1 : Int32).toNatClampNeg ((rI (sRI S t0 (va_up (rI S t0) (0 : Int32).toNatClampNeg ((rI S x1) v1.toNatClampNeg))) x2) v1.toNatClampNeg)) (2 : Int32).toNatClampNeg ((rI (sRI S t0 (va_up (va_up (rI S t0) (0 : Int32).toNatClampNeg ((rI S x1) v1.toNatClampNeg)) (1 : Int32).toNatClampNeg ((rI (sRI S t0 (va_up (rI S t0) (0 : Int32).toNatClampNeg ((rI S x1) v1.toNatClampNeg))) x2) v1.toNatClampNeg))) x3) v1.toNatClampNeg)) (3 : Int32).toNatClampNeg (gI S 922 v0)) (4 : Int32).toNatClampNeg v3)) B dX13_vanTold_47 h5 h16 (by simp [kd_sI, kd_sP, kd_sRI, kd_sRP, kd_nw, gI_sI, gI_sP, gI_sRI, gI_sRP, gI_nw, gP_sI, gP_sP, gP_sRI, gP_sRP, gP_nw, ln_sI, ln_sP, ln_sRI, ln_sRP, ln_nw, rI_sI, rI_sP, rI_sRI, rI_sRP, rI_nw, rP_sI, rP_sP, rP_sRI, rP_sRP, rP_nw, va_up_self]) (sRI_sRI ..) ?_
  refine k_dup B rfl dX13_vanTold_48 ?_
  refine k_iconst (v := 5) B (by decide) dX13_vanTold_49 ?_
  refine k_aload_n B 0 rfl rfl dX13_vanTold_50 ?_
  refine k_getI (f := 926) (v := gI S 926 v0) B 14 30 rfl (by decide) rfl (by decide) rfl rfl (fun w h => in_of (uw_14 w h)) (in_of qfRX13_178) dX13_vanTold_51 h1 rfl ?_
  refine k_iast (g := va_up (va_up (va_up (va_up (va_up (rI S t0) (0 : Int32).toNatClampNeg ((rI S x1) v1.toNatClampNeg)) (1 : Int32).toNatClampNeg ((rI (sRI S t0 (va_up (rI S t0) (0 : Int32).toNatClampNeg ((rI S x1) v1.toNatClampNeg))) x2) v1.toNatClampNeg)) (2 : Int32).toNatClampNeg ((rI (sRI S t0 (va_up (va_up (rI S t0) (0 : Int32).toNatClampNeg ((rI S x1) v1.toNatClampNeg)) (1 : Int32).toNatClampNeg ((rI (sRI S t0 (va_up (rI S t0) (0 : Int32).toNatClampNeg ((rI S x1) v1.toNatClampNeg))) x2) v1.toNatClampNeg))) x3) v1.toNatClampNeg)) (3 : Int32).toNatClampNeg (gI S 922 v0)) (4 : Int32).toNatClampNeg v3) (S' := sRI S t0 (va_up (va_up (va_up (va_up (va_up (va_up (rI S t0) (0 : Int32).toNatClampNeg ((rI S x1) v1.toNatClampNeg)) (1 : Int32).toNatClampNeg ((rI (sRI S t0 (va_up (rI S t0) (0 : Int32).toNatClampNeg ((rI S x1) v1.toNatClampNeg))) x2) v1.toNatClampNeg)) (2 : Int32).toNatClampNeg ((rI (sRI S t0 (va_up (va_up (rI S t0) (0 : Int32).toNatClampNeg ((rI S x1) v1.toNatClampNeg)) (1 : Int32).toNatClampNeg ((rI (sRI S t0 (va_up (rI S t0) (0 : Int32).toNatClampNeg ((rI S x1) v1.toNatClampNeg))) x2) v1.toNatClampNeg))) x3) v1.toNatClampNeg)) (3 : Int32).toNatClampNeg (gI S 922 v0)) (4 : Int32).toNatClampNeg v3) (5 : Int32).toNatClampNeg (gI S 926 v0))) B dX13_vanTold_54 h5 h17 (by simp [kd_sI, kd_sP, kd_sRI, kd_sRP, kd_nw, gI_sI, gI_sP, gI_sRI, gI_sRP, gI_nw, gP_sI, gP_sP, gP_sRI, gP_sRP, gP_nw, ln_sI, ln_sP, ln_sRI, ln_sRP, ln_nw, rI_sI, rI_sP, rI_sRI, rI_sRP, rI_nw, rP_sI, rP_sP, rP_sRI, rP_sRP, rP_nw, va_up_self]) (sRI_sRI ..) ?_
  refine k_dup B rfl dX13_vanTold_55 ?_
  refine k_bipush (v := 6) B (by decide) dX13_vanTold_56 ?_
  refine k_aload_n B 0 rfl rfl dX13_vanTold_58 ?_
  refine k_getI (f := 927) (v := gI S 927 v0) B 14 31 rfl (by decide) rfl (by decide) rfl rfl (fun w h => in_of (uw_14 w h)) (in_of qfRX13_181) dX13_vanTold_59 h1 rfl ?_
  refine k_iast (g := va_up (va_up (va_up (va_up (va_up (va_up (rI S t0) (0 : Int32).toNatClampNeg ((rI S x1) v1.toNatClampNeg)) (1 : Int32).toNatClampNeg ((rI (sRI S t0 (va_up (rI S t0) (0 : Int32).toNatClampNeg ((rI S x1) v1.toNatClampNeg))) x2) v1.toNatClampNeg)) (2 : Int32).toNatClampNeg ((rI (sRI S t0 (va_up (va_up (rI S t0) (0 : Int32).toNatClampNeg ((rI S x1) v1.toNatClampNeg)) (1 : Int32).toNatClampNeg ((rI (sRI S t0 (va_up (rI S t0) (0 : Int32).toNatClampNeg ((rI S x1) v1.toNatClampNeg))) x2) v1.toNatClampNeg))) x3) v1.toNatClampNeg)) (3 : Int32).toNatClampNeg (gI S 922 v0)) (4 : Int32).toNatClampNeg v3) (5 : Int32).toNatClampNeg (gI S 926 v0)) (S' := sRI S t0 (va_up (va_up (va_up (va_up (va_up (va_up (va_up (rI S t0) (0 : Int32).toNatClampNeg ((rI S x1) v1.toNatClampNeg)) (1 : Int32).toNatClampNeg ((rI (sRI S t0 (va_up (rI S t0) (0 : Int32).toNatClampNeg ((rI S x1) v1.toNatClampNeg))) x2) v1.toNatClampNeg)) (2 : Int32).toNatClampNeg ((rI (sRI S t0 (va_up (va_up (rI S t0) (0 : Int32).toNatClampNeg ((rI S x1) v1.toNatClampNeg)) (1 : Int32).toNatClampNeg ((rI (sRI S t0 (va_up (rI S t0) (0 : Int32).toNatClampNeg ((rI S x1) v1.toNatClampNeg))) x2) v1.toNatClampNeg))) x3) v1.toNatClampNeg)) (3 : Int32).toNatClampNeg (gI S 922 v0)) (4 : Int32).toNatClampNeg v3) (5 : Int32).toNatClampNeg (gI S 926 v0)) (6 : Int32).toNatClampNeg (gI S 927 v0))) B dX13_vanTold_62 h5 h18 (by simp [kd_sI, kd_sP, kd_sRI, kd_sRP, kd_nw, gI_sI, gI_sP, gI_sRI, gI_sRP, gI_nw, gP_sI, gP_sP, gP_sRI, gP_sRP, gP_nw, ln_sI, ln_sP, ln_sRI, ln_sRP, ln_nw, rI_sI, rI_sP, rI_sRI, rI_sRP, rI_nw, rP_sI, rP_sP, rP_sRI, rP_sRP, rP_nw, va_up_self]) (sRI_sRI ..) ?_
  refine k_dup B rfl dX13_vanTold_63 ?_
  refine k_bipush (v := 7) B (by decide) dX13_vanTold_64 ?_
  refine k_aload_n B 0 rfl rfl dX13_vanTold_66 ?_
  refine k_getI (f := 928) (v := gI S 928 v0) B 14 32 rfl (by decide) rfl (by decide) rfl rfl (fun w h => in_of (uw_14 w h)) (in_of qfRX13_200) dX13_vanTold_67 h1 rfl ?_
  refine k_iast (g := va_up (va_up (va_up (va_up (va_up (va_up (va_up (rI S t0) (0 : Int32).toNatClampNeg ((rI S x1) v1.toNatClampNeg)) (1 : Int32).toNatClampNeg ((rI (sRI S t0 (va_up (rI S t0) (0 : Int32).toNatClampNeg ((rI S x1) v1.toNatClampNeg))) x2) v1.toNatClampNeg)) (2 : Int32).toNatClampNeg ((rI (sRI S t0 (va_up (va_up (rI S t0) (0 : Int32).toNatClampNeg ((rI S x1) v1.toNatClampNeg)) (1 : Int32).toNatClampNeg ((rI (sRI S t0 (va_up (rI S t0) (0 : Int32).toNatClampNeg ((rI S x1) v1.toNatClampNeg))) x2) v1.toNatClampNeg))) x3) v1.toNatClampNeg)) (3 : Int32).toNatClampNeg (gI S 922 v0)) (4 : Int32).toNatClampNeg v3) (5 : Int32).toNatClampNeg (gI S 926 v0)) (6 : Int32).toNatClampNeg (gI S 927 v0)) (S' := sRI S t0 (va_up (va_up (va_up (va_up (va_up (va_up (va_up (va_up (rI S t0) (0 : Int32).toNatClampNeg ((rI S x1) v1.toNatClampNeg)) (1 : Int32).toNatClampNeg ((rI (sRI S t0 (va_up (rI S t0) (0 : Int32).toNatClampNeg ((rI S x1) v1.toNatClampNeg))) x2) v1.toNatClampNeg)) (2 : Int32).toNatClampNeg ((rI (sRI S t0 (va_up (va_up (rI S t0) (0 : Int32).toNatClampNeg ((rI S x1) v1.toNatClampNeg)) (1 : Int32).toNatClampNeg ((rI (sRI S t0 (va_up (rI S t0) (0 : Int32).toNatClampNeg ((rI S x1) v1.toNatClampNeg))) x2) v1.toNatClampNeg))) x3) v1.toNatClampNeg)) (3 : Int32).toNatClampNeg (gI S 922 v0)) (4 : Int32).toNatClampNeg v3) (5 : Int32).toNatClampNeg (gI S 926 v0)) (6 : Int32).toNatClampNeg (gI S 927 v0)) (7 : Int32).toNatClampNeg (gI S 928 v0))) B dX13_vanTold_70 h5 h19 (by simp [kd_sI, kd_sP, kd_sRI, kd_sRP, kd_nw, gI_sI, gI_sP, gI_sRI, gI_sRP, gI_nw, gP_sI, gP_sP, gP_sRI, gP_sRP, gP_nw, ln_sI, ln_sP, ln_sRI, ln_sRP, ln_nw, rI_sI, rI_sP, rI_sRI, rI_sRP, rI_nw, rP_sI, rP_sP, rP_sRI, rP_sRP, rP_nw, va_up_self]) (sRI_sRI ..) ?_
  refine k_dup B rfl dX13_vanTold_71 ?_
  refine k_bipush (v := 8) B (by decide) dX13_vanTold_72 ?_
  refine k_aload_n B 0 rfl rfl dX13_vanTold_74 ?_
  refine k_getI (f := 929) (v := gI S 929 v0) B 14 33 rfl (by decide) rfl (by decide) rfl rfl (fun w h => in_of (uw_14 w h)) (in_of qfRX13_184) dX13_vanTold_75 h1 rfl ?_
  refine k_iast (g := va_up (va_up (va_up (va_up (va_up (va_up (va_up (va_up (rI S t0) (0 : Int32).toNatClampNeg ((rI S x1) v1.toNatClampNeg)) (1 : Int32).toNatClampNeg ((rI (sRI S t0 (va_up (rI S t0) (0 : Int32).toNatClampNeg ((rI S x1) v1.toNatClampNeg))) x2) v1.toNatClampNeg)) (2 : Int32).toNatClampNeg ((rI (sRI S t0 (va_up (va_up (rI S t0) (0 : Int32).toNatClampNeg ((rI S x1) v1.toNatClampNeg)) (1 : Int32).toNatClampNeg ((rI (sRI S t0 (va_up (rI S t0) (0 : Int32).toNatClampNeg ((rI S x1) v1.toNatClampNeg))) x2) v1.toNatClampNeg))) x3) v1.toNatClampNeg)) (3 : Int32).toNatClampNeg (gI S 922 v0)) (4 : Int32).toNatClampNeg v3) (5 : Int32).toNatClampNeg (gI S 926 v0)) (6 : Int32).toNatClampNeg (gI S 927 v0)) (7 : Int32).toNatClampNeg (gI S 928 v0)) (S' := sRI S t0 (va_up (va_up (va_up (va_up (va_up (va_up (va_up (va_up (va_up (rI S t0) (0 : Int32).toNatClampNeg ((rI S x1) v1.toNatClampNeg)) (1 : Int32).toNatClampNeg ((rI (sRI S t0 (va_up (rI S t0) (0 : Int32).toNatClampNeg ((rI S x1) v1.toNatClampNeg))) x2) v1.toNatClampNeg)) (2 : Int32).toNatClampNeg ((rI (sRI S t0 (va_up (va_up (rI S t0) (0 : Int32).toNatClampNeg ((rI S x1) v1.toNatClampNeg)) (1 : Int32).toNatClampNeg ((rI (sRI S t0 (va_up (rI S t0) (0 : Int32).toNatClampNeg ((rI S x1) v1.toNatClampNeg))) x2) v1.toNatClampNeg))) x3) v1.toNatClampNeg)) (3 : Int32).toNatClampNeg (gI S 922 v0)) (4 : Int32).toNatClampNeg v3) (5 : Int32).toNatClampNeg (gI S 926 v0)) (6 : Int32).toNatClampNeg (gI S 927 v0)) (7 : Int32).toNatClampNeg (gI S 928 v0)) (8 : Int32).toNatClampNeg (gI S 929 v0))) B dX13_vanTold_78 h5 h20 (by simp [kd_sI, kd_sP, kd_sRI, kd_sRP, kd_nw, gI_sI, gI_sP, gI_sRI, gI_sRP, gI_nw, gP_sI, gP_sP, gP_sRI, gP_sRP, gP_nw, ln_sI, ln_sP, ln_sRI, ln_sRP, ln_nw, rI_sI, rI_sP, rI_sRI, rI_sRP, rI_nw, rP_sI, rP_sP, rP_sRI, rP_sRP, rP_nw, va_up_self]) (sRI_sRI ..) ?_
  refine k_dup B rfl dX13_vanTold_79 ?_
  refine k_bipush (v := 9) B (by decide) dX13_vanTold_80 ?_
  refine k_aload_n B 0 rfl rfl dX13_vanTold_82 ?_
  refine k_getI (f := 930) (v := gI S 930 v0) B 14 34 rfl (by decide) rfl (by decide) rfl rfl (fun w h => in_of (uw_14 w h)) (in_of qfRX13_187) dX13_vanTold_83 h1 rfl ?_
  refine k_iast (g := va_up (va_up (va_up (va_up (va_up (va_up (va_up (va_up (va_up (rI S t0) (0 : Int32).toNatClampNeg ((rI S x1) v1.toNatClampNeg)) (1 : Int32).toNatClampNeg ((rI (sRI S t0 (va_up (rI S t0) (0 : Int32).toNatClampNeg ((rI S x1) v1.toNatClampNeg))) x2) v1.toNatClampNeg)) (2 : Int32).toNatClampNeg ((rI (sRI S t0 (va_up (va_up (rI S t0) (0 : Int32).toNatClampNeg ((rI S x1) v1.toNatClampNeg)) (1 : Int32).toNatClampNeg ((rI (sRI S t0 (va_up (rI S t0) (0 : Int32).toNatClampNeg ((rI S x1) v1.toNatClampNeg))) x2) v1.toNatClampNeg))) x3) v1.toNatClampNeg)) (3 : Int32).toNatClampNeg (gI S 922 v0)) (4 : Int32).toNatClampNeg v3) (5 : Int32).toNatClampNeg (gI S 926 v0)) (6 : Int32).toNatClampNeg (gI S 927 v0)) (7 : Int32).toNatClampNeg (gI S 928 v0)) (8 : Int32).toNatClampNeg (gI S 929 v0)) (S' := sRI S t0 (va_up (va_up (va_up (va_up (va_up (va_up (va_up (va_up (va_up (va_up (rI S t0) (0 : Int32).toNatClampNeg ((rI S x1) v1.toNatClampNeg)) (1 : Int32).toNatClampNeg ((rI (sRI S t0 (va_up (rI S t0) (0 : Int32).toNatClampNeg ((rI S x1) v1.toNatClampNeg))) x2) v1.toNatClampNeg)) (2 : Int32).toNatClampNeg ((rI (sRI S t0 (va_up (va_up (rI S t0) (0 : Int32).toNatClampNeg ((rI S x1) v1.toNatClampNeg)) (1 : Int32).toNatClampNeg ((rI (sRI S t0 (va_up (rI S t0) (0 : Int32).toNatClampNeg ((rI S x1) v1.toNatClampNeg))) x2) v1.toNatClampNeg))) x3) v1.toNatClampNeg)) (3 : Int32).toNatClampNeg (gI S 922 v0)) (4 : Int32).toNatClampNeg v3) (5 : Int32).toNatClampNeg (gI S 926 v0)) (6 : Int32).toNatClampNeg (gI S 927 v0)) (7 : Int32).toNatClampNeg (gI S 928 v0)) (8 : Int32).toNatClampNeg (gI S 929 v0)) (9 : Int32).toNatClampNeg (gI S 930 v0))) B dX13_vanTold_86 h5 h21 (by simp [kd_sI, kd_sP, kd_sRI, kd_sRP, kd_nw, gI_sI, gI_sP, gI_sRI, gI_sRP, gI_nw, gP_sI, gP_sP, gP_sRI, gP_sRP, gP_nw, ln_sI, ln_sP, ln_sRI, ln_sRP, ln_nw, rI_sI, rI_sP, rI_sRI, rI_sRP, rI_nw, rP_sI, rP_sP, rP_sRI, rP_sRP, rP_nw, va_up_self]) (sRI_sRI ..) ?_
  refine k_sub [2] rfl ?_
  exact kk
theorem bX13_vanTold_87 (B : Bd p s m args meth c cX13_vanTold 5 (wsOf yX13_vanTold cX13_vanTold 5 (some .int)) RX13 w (some .int) "vanTold") {v2 : Int32} {t0 : Nat} {post : Int32 → St → Prop} {k n : Nat} (h1 : kd S t0 = 21) (h2 : vp_in v2 (ln S t0)) (hq : post ((rI S t0) v2.toNatClampNeg) S) : K p l e rX13_vanTold s m args below meth c 5 w k n (MQ below (va_Qi post (fun S' t => Hd w S' t.heap) (wA w)) args s k n (wA w)) S 87 [(2, .int v2)] [.ref t0] := by
  refine k_astore (lst' := [(4, .ref t0), (2, .int v2)]) B (by decide) rfl dX13_vanTold_87 ?_
  refine k_aload B 0 rfl dX13_vanTold_89 ?_
  refine k_iload_n B 1 rfl rfl dX13_vanTold_91 ?_
  refine k_iald (v := (rI S t0) v2.toNatClampNeg) B dX13_vanTold_92 h1 h2 rfl ?_
  exact ret_I B rfl dX13_vanTold_93 (hq)
theorem bX13_van_0 (B : Bd p s m args meth c cX13_van 3 (wsOf yX13_van cX13_van 3 (some .int)) RX13 w (some .int) "van") {v0 : Nat} {v1 : Int32} {v2 : Int32} {post : Int32 → St → Prop} {k n : Nat} {Q : State → Prop} (h1 : kd S v0 = 15) (hc : ConI l yX13_isVan (wsOf yX13_isVan cX13_isVan 2 (some .boolean)) rX13_isVan w (sI S 896 v0 0) [.ref v0, .int v1] post) (h2 : k + 0 ≤ rX13_van.cells) (h3 : n + 0 ≤ rX13_van.slots) (kk : ∀ (r : Int32) (S' : St), post r S' → K p l e rX13_van s m args below meth c 3 w k n Q S' 10 [(0, .ref v0), (1, .int v1), (2, .int v2)] [.int r]) : K p l e rX13_van s m args below meth c 3 w k n Q S 0 [(0, .ref v0), (1, .int v1), (2, .int v2)] [] := by
  refine k_aload_n B 0 rfl rfl dX13_van_0 ?_
  refine k_iconst (v := 0) B (by decide) dX13_van_1 ?_
  refine k_putI (f := 896) B 14 0 rfl (by decide) rfl (by decide) rfl rfl (fun w h => in_of (uw_14 w h)) (in_of qfRX13_95) tyX13 tyX13_ok nmX13 rfl (tyX13_ok 0 (by decide)) dX13_van_2 h1 ?_
  refine k_aload_n B 0 rfl rfl dX13_van_5 ?_
  refine k_iload_n B 1 rfl rfl dX13_van_6 ?_
  refine callV_I (st := []) B [.int v1] (hc) (cwV 1 B.1.2.2.2.2 (gV qlRX13_218 qiX13_isVan qeX13_isVan qzRX13 qcX13_isVan) rfl rfl rfl (by decide +kernel) ⟨Nat.le_of_ble_eq_true rfl, Nat.le_of_ble_eq_true rfl⟩) rfl rfl (by decide) h1 (Nat.le_of_ble_eq_true rfl) rfl dX13_van_7 ⟨h2, h3⟩ (fun r S' hp => ?_)
  exact kk r S' hp
theorem bX13_van_10 (B : Bd p s m args meth c cX13_van 3 (wsOf yX13_van cX13_van 3 (some .int)) RX13 w (some .int) "van") {v0 : Nat} {v1 : Int32} {v2 : Int32} {t0 : Int32} {k n : Nat} {Q : State → Prop}  (kt : t0 = 0 → K p l e rX13_van s m args below meth c 3 w k n Q S 32 [(0, .ref v0)] []) (kf : ¬ t0 = 0 → K p l e rX13_van s m args below meth c 3 w k n Q S 13 [(0, .ref v0), (1, .int v1), (2, .int v2)] []) : K p l e rX13_van s m args below meth c 3 w k n Q S 10 [(0, .ref v0), (1, .int v1), (2, .int v2)] [.int t0] := by
  refine k_if_eq (tgt := 32) B dX13_van_10 (by decide) (fun c => ?_) (fun c => ?_)
  · refine k_sub [0] rfl ?_
    exact kt c
  · exact kf c
theorem bX13_van_13 (B : Bd p s m args meth c cX13_van 3 (wsOf yX13_van cX13_van 3 (some .int)) RX13 w (some .int) "van") {v0 : Nat} {v1 : Int32} {v2 : Int32} {post : Int32 → St → Prop} {k n : Nat} {Q : State → Prop} (hc : ConI l yX13_isIn (wsOf yX13_isIn cX13_isIn 3 (some .boolean)) rX13_isIn w S [.int v2, .int 0, .int 9] post) (h1 : k + 0 ≤ rX13_van.cells) (h2 : n + 0 ≤ rX13_van.slots) (kk : ∀ (r : Int32) (S' : St), post r S' → K p l e rX13_van s m args below meth c 3 w k n Q S' 20 [(0, .ref v0), (1, .int v1), (2, .int v2)] [.int r]) : K p l e rX13_van s m args below meth c 3 w k n Q S 13 [(0, .ref v0), (1, .int v1), (2, .int v2)] [] := by
  refine k_iload_n B 2 rfl rfl dX13_van_13 ?_
  refine k_iconst (v := 0) B (by decide) dX13_van_14 ?_
  refine k_bipush (v := 9) B (by decide) dX13_van_15 ?_
  refine callS_I (st := []) B [.int v2, .int 0, .int 9] (hc) (va_cwS 3 B.1.2.2.2.2 (gS qlRX13_98 qsX13_isIn qzRX13 qcX13_isIn) rfl rfl rfl (by decide +kernel) ⟨Nat.le_of_ble_eq_true rfl, Nat.le_of_ble_eq_true rfl⟩) rfl (Nat.le_of_ble_eq_true rfl) rfl dX13_van_17 ⟨h1, h2⟩ (fun r S' hp => ?_)
  exact kk r S' hp
theorem bX13_van_20 (B : Bd p s m args meth c cX13_van 3 (wsOf yX13_van cX13_van 3 (some .int)) RX13 w (some .int) "van") {v0 : Nat} {v1 : Int32} {v2 : Int32} {t0 : Int32} {k n : Nat} {Q : State → Prop}  (kt : t0 = 0 → K p l e rX13_van s m args below meth c 3 w k n Q S 32 [(0, .ref v0)] []) (kf : ¬ t0 = 0 → K p l e rX13_van s m args below meth c 3 w k n Q S 23 [(0, .ref v0), (1, .int v1), (2, .int v2)] []) : K p l e rX13_van s m args below meth c 3 w k n Q S 20 [(0, .ref v0), (1, .int v1), (2, .int v2)] [.int t0] := by
  refine k_if_eq (tgt := 32) B dX13_van_20 (by decide) (fun c => ?_) (fun c => ?_)
  · refine k_sub [0] rfl ?_
    exact kt c
  · exact kf c
theorem bX13_van_23 (B : Bd p s m args meth c cX13_van 3 (wsOf yX13_van cX13_van 3 (some .int)) RX13 w (some .int) "van") {v0 : Nat} {v1 : Int32} {v2 : Int32} {post : Int32 → St → Prop} {k n : Nat} {Q : State → Prop} (hc : ConI l yX13_vanTold (wsOf yX13_vanTold cX13_vanTold 5 (some .int)) rX13_vanTold w S [.ref v0, .int v1, .int v2] post) (h1 : k + 1 ≤ rX13_van.cells) (h2 : n + 10 ≤ rX13_van.slots) (h3 : kd S v0 = 15) (kk : ∀ (r : Int32) (S' : St), post r S' → K p l e rX13_van s m args below meth c 3 w (k + 1) (n + 10) Q S' 29 [] [.int r]) : K p l e rX13_van s m args below meth c 3 w k n Q S 23 [(0, .ref v0), (1, .int v1), (2, .int v2)] [] := by
  refine k_aload_n B 0 rfl rfl dX13_van_23 ?_
  refine k_iload_n B 1 rfl rfl dX13_van_24 ?_
  refine k_iload_n B 2 rfl rfl dX13_van_25 ?_
  refine callV_I (st := []) B [.int v1, .int v2] (hc) (cwV 2 B.1.2.2.2.2 (gV qlRX13_234 qiX13_vanTold qeX13_vanTold qzRX13 qcX13_vanTold) rfl rfl rfl (by decide +kernel) ⟨Nat.le_of_ble_eq_true rfl, Nat.le_of_ble_eq_true rfl⟩) rfl rfl (by decide) h3 (Nat.le_of_ble_eq_true rfl) rfl dX13_van_26 ⟨h1, h2⟩ (fun r S' hp => ?_)
  refine k_sub [] rfl ?_
  exact kk r S' hp
theorem bX13_van_29 (B : Bd p s m args meth c cX13_van 3 (wsOf yX13_van cX13_van 3 (some .int)) RX13 w (some .int) "van") {t0 : Int32} {k n : Nat} {Q : State → Prop}  (kk : K p l e rX13_van s m args below meth c 3 w k n Q S 37 [] [.int t0]) : K p l e rX13_van s m args below meth c 3 w k n Q S 29 [] [.int t0] := by
  refine k_goto (tgt := 37) B dX13_van_29 (by decide) ?_
  exact kk
theorem bX13_van_32 (B : Bd p s m args meth c cX13_van 3 (wsOf yX13_van cX13_van 3 (some .int)) RX13 w (some .int) "van") {v0 : Nat} {post : Int32 → St → Prop} {k n : Nat} {Q : State → Prop} (hc : ConI l yX13_no (wsOf yX13_no cX13_no 2 (some .int)) rX13_no w S [.ref v0, .int 1] post) (h1 : k + 0 ≤ rX13_van.cells) (h2 : n + 0 ≤ rX13_van.slots) (h3 : kd S v0 = 15) (kk : ∀ (r : Int32) (S' : St), post r S' → K p l e rX13_van s m args below meth c 3 w k n Q S' 37 [] [.int r]) : K p l e rX13_van s m args below meth c 3 w k n Q S 32 [(0, .ref v0)] [] := by
  refine k_aload_n B 0 rfl rfl dX13_van_32 ?_
  refine k_iconst (v := 1) B (by decide) dX13_van_33 ?_
  refine callV_I (st := []) B [.int 1] (hc) (cwV 1 B.1.2.2.2.2 (gV qlRX13_120 qiX13_no qeX13_no qzRX13 qcX13_no) rfl rfl rfl (by decide +kernel) ⟨Nat.le_of_ble_eq_true rfl, Nat.le_of_ble_eq_true rfl⟩) rfl rfl (by decide) h3 (Nat.le_of_ble_eq_true rfl) rfl dX13_van_34 ⟨h1, h2⟩ (fun r S' hp => ?_)
  refine k_sub [] rfl ?_
  exact kk r S' hp
theorem bX13_van_37 (B : Bd p s m args meth c cX13_van 3 (wsOf yX13_van cX13_van 3 (some .int)) RX13 w (some .int) "van") {t0 : Int32} {post : Int32 → St → Prop} {k n : Nat}  (hq : post t0 S) : K p l e rX13_van s m args below meth c 3 w k n (MQ below (va_Qi post (fun S' t => Hd w S' t.heap) (wA w)) args s k n (wA w)) S 37 [] [.int t0] := by
  exact ret_I B rfl dX13_van_37 (hq)
theorem bX13_stop_0 (B : Bd p s m args meth c cX13_stop 5 (wsOf yX13_stop cX13_stop 5 (some .int)) RX13 w (some .int) "stop") {v0 : Nat} {v1 : Int32} {v2 : Int32} {v3 : Int32} {post : Int32 → St → Prop} {Q : State → Prop} (h1 : kd S v0 = 15) (hc : ConI l yX13_isVan (wsOf yX13_isVan cX13_isVan 2 (some .boolean)) rX13_isVan w (sI S 896 v0 0) [.ref v0, .int v1] post) (kk : ∀ (r : Int32) (S' : St), post r S' → K p l e rX13_stop s m args below meth c 5 w 0 0 Q S' 10 [(0, .ref v0), (1, .int v1), (2, .int v2), (3, .int v3)] [.int r]) : K p l e rX13_stop s m args below meth c 5 w 0 0 Q S 0 [(0, .ref v0), (1, .int v1), (2, .int v2), (3, .int v3)] [] := by
  refine k_aload_n B 0 rfl rfl dX13_stop_0 ?_
  refine k_iconst (v := 0) B (by decide) dX13_stop_1 ?_
  refine k_putI (f := 896) B 14 0 rfl (by decide) rfl (by decide) rfl rfl (fun w h => in_of (uw_14 w h)) (in_of qfRX13_95) tyX13 tyX13_ok nmX13 rfl (tyX13_ok 0 (by decide)) dX13_stop_2 h1 ?_
  refine k_aload_n B 0 rfl rfl dX13_stop_5 ?_
  refine k_iload_n B 1 rfl rfl dX13_stop_6 ?_
  refine callV_I (st := []) B [.int v1] (hc) (cwV 1 B.1.2.2.2.2 (gV qlRX13_218 qiX13_isVan qeX13_isVan qzRX13 qcX13_isVan) rfl rfl rfl (by decide +kernel) ⟨Nat.le_of_ble_eq_true rfl, Nat.le_of_ble_eq_true rfl⟩) rfl rfl (by decide) h1 (Nat.le_of_ble_eq_true rfl) rfl dX13_stop_7 ⟨Nat.le_of_ble_eq_true rfl, Nat.le_of_ble_eq_true rfl⟩ (fun r S' hp => ?_)
  exact kk r S' hp
theorem bX13_stop_10 (B : Bd p s m args meth c cX13_stop 5 (wsOf yX13_stop cX13_stop 5 (some .int)) RX13 w (some .int) "stop") {v0 : Nat} {v1 : Int32} {v2 : Int32} {v3 : Int32} {t0 : Int32} {Q : State → Prop}  (kt : t0 = 0 → K p l e rX13_stop s m args below meth c 5 w 0 0 Q S 41 [(0, .ref v0)] []) (kf : ¬ t0 = 0 → K p l e rX13_stop s m args below meth c 5 w 0 0 Q S 13 [(0, .ref v0), (1, .int v1), (2, .int v2), (3, .int v3)] []) : K p l e rX13_stop s m args below meth c 5 w 0 0 Q S 10 [(0, .ref v0), (1, .int v1), (2, .int v2), (3, .int v3)] [.int t0] := by
  refine k_if_eq (tgt := 41) B dX13_stop_10 (by decide) (fun c => ?_) (fun c => ?_)
  · refine k_sub [0] rfl ?_
    exact kt c
  · exact kf c
theorem bX13_stop_13 (B : Bd p s m args meth c cX13_stop 5 (wsOf yX13_stop cX13_stop 5 (some .int)) RX13 w (some .int) "stop") {v0 : Nat} {v1 : Int32} {v2 : Int32} {v3 : Int32} {x1 : Nat} {x2 : Nat} {post : Int32 → St → Prop} {Q : State → Prop} (h1 : kd S v0 = 15) (h2 : gP S 919 v0 = some x1) (h3 : kd S x1 = 14) (h4 : gP S 840 x1 = some x2) (h5 : kd S x2 = 21) (h6 : vp_in v1 (ln S x2)) (hc : ConI l yX13_isIn (wsOf yX13_isIn cX13_isIn 3 (some .boolean)) rX13_isIn w S [.int v2, .int 0, .int (((rI S x2) v1.toNatClampNeg) - 1)] post) (kk : ∀ (r : Int32) (S' : St), post r S' → K p l e rX13_stop s m args below meth c 5 w 0 0 Q S' 29 [(0, .ref v0), (1, .int v1), (2, .int v2), (3, .int v3)] [.int r]) : K p l e rX13_stop s m args below meth c 5 w 0 0 Q S 13 [(0, .ref v0), (1, .int v1), (2, .int v2), (3, .int v3)] [] := by
  refine k_iload_n B 2 rfl rfl dX13_stop_13 ?_
  refine k_iconst (v := 0) B (by decide) dX13_stop_14 ?_
  refine k_aload_n B 0 rfl rfl dX13_stop_15 ?_
  refine k_getP (f := 919) (r := gP S 919 v0) B 14 23 rfl (by decide) rfl (by decide) rfl rfl (fun w h => in_of (uw_14 w h)) (in_of qfRX13_70) dX13_stop_16 h1 rfl ?_
  rw [h2]; change K _ _ _ _ _ _ _ _ _ _ _ _ _ _ _ _ _ _ (.ref x1 :: _)
  refine k_getPN (f := 840) (r := gP S 840 x1) B 13 8 rfl (by decide) rfl (by decide) rfl rfl (fun w h => in_of (uw_13 w h)) "LastMileModel" (nzF_5 B.2.2.2.1.2.2.2.1) dX13_stop_19 h3 rfl ?_
  rw [h4]; change K _ _ _ _ _ _ _ _ _ _ _ _ _ _ _ _ _ _ (.ref x2 :: _)
  refine k_iload_n B 1 rfl rfl dX13_stop_22 ?_
  refine k_iald (v := (rI S x2) v1.toNatClampNeg) B dX13_stop_23 h5 h6 rfl ?_
  refine k_iconst (v := 1) B (by decide) dX13_stop_24 ?_
  refine k_isub B dX13_stop_25 ?_
  refine callS_I (st := []) B [.int v2, .int 0, .int (((rI S x2) v1.toNatClampNeg) - 1)] (hc) (va_cwS 3 B.1.2.2.2.2 (gS qlRX13_98 qsX13_isIn qzRX13 qcX13_isIn) rfl rfl rfl (by decide +kernel) ⟨Nat.le_of_ble_eq_true rfl, Nat.le_of_ble_eq_true rfl⟩) rfl (Nat.le_of_ble_eq_true rfl) rfl dX13_stop_26 ⟨Nat.le_of_ble_eq_true rfl, Nat.le_of_ble_eq_true rfl⟩ (fun r S' hp => ?_)
  exact kk r S' hp
theorem bX13_stop_29 (B : Bd p s m args meth c cX13_stop 5 (wsOf yX13_stop cX13_stop 5 (some .int)) RX13 w (some .int) "stop") {v0 : Nat} {v1 : Int32} {v2 : Int32} {v3 : Int32} {t0 : Int32} {Q : State → Prop}  (kt : t0 = 0 → K p l e rX13_stop s m args below meth c 5 w 0 0 Q S 41 [(0, .ref v0)] []) (kf : ¬ t0 = 0 → K p l e rX13_stop s m args below meth c 5 w 0 0 Q S 32 [(0, .ref v0), (1, .int v1), (2, .int v2), (3, .int v3)] []) : K p l e rX13_stop s m args below meth c 5 w 0 0 Q S 29 [(0, .ref v0), (1, .int v1), (2, .int v2), (3, .int v3)] [.int t0] := by
  refine k_if_eq (tgt := 41) B dX13_stop_29 (by decide) (fun c => ?_) (fun c => ?_)
  · refine k_sub [0] rfl ?_
    exact kt c
  · exact kf c
theorem bX13_stop_32 (B : Bd p s m args meth c cX13_stop 5 (wsOf yX13_stop cX13_stop 5 (some .int)) RX13 w (some .int) "stop") {v0 : Nat} {v1 : Int32} {v2 : Int32} {v3 : Int32} {post : Int32 → St → Prop} {Q : State → Prop} (hc : ConI l yX13_isIn (wsOf yX13_isIn cX13_isIn 3 (some .boolean)) rX13_isIn w S [.int v3, .int 0, .int 3] post) (kk : ∀ (r : Int32) (S' : St), post r S' → K p l e rX13_stop s m args below meth c 5 w 0 0 Q S' 38 [(0, .ref v0), (1, .int v1), (2, .int v2), (3, .int v3)] [.int r]) : K p l e rX13_stop s m args below meth c 5 w 0 0 Q S 32 [(0, .ref v0), (1, .int v1), (2, .int v2), (3, .int v3)] [] := by
  refine k_iload_n B 3 rfl rfl dX13_stop_32 ?_
  refine k_iconst (v := 0) B (by decide) dX13_stop_33 ?_
  refine k_iconst (v := 3) B (by decide) dX13_stop_34 ?_
  refine callS_I (st := []) B [.int v3, .int 0, .int 3] (hc) (va_cwS 3 B.1.2.2.2.2 (gS qlRX13_98 qsX13_isIn qzRX13 qcX13_isIn) rfl rfl rfl (by decide +kernel) ⟨Nat.le_of_ble_eq_true rfl, Nat.le_of_ble_eq_true rfl⟩) rfl (Nat.le_of_ble_eq_true rfl) rfl dX13_stop_35 ⟨Nat.le_of_ble_eq_true rfl, Nat.le_of_ble_eq_true rfl⟩ (fun r S' hp => ?_)
  exact kk r S' hp
theorem bX13_stop_38 (B : Bd p s m args meth c cX13_stop 5 (wsOf yX13_stop cX13_stop 5 (some .int)) RX13 w (some .int) "stop") {v0 : Nat} {v1 : Int32} {v2 : Int32} {v3 : Int32} {t0 : Int32} {Q : State → Prop}  (kt : ¬ t0 = 0 → K p l e rX13_stop s m args below meth c 5 w 0 0 Q S 47 [(0, .ref v0), (1, .int v1), (2, .int v2), (3, .int v3)] []) (kf : t0 = 0 → K p l e rX13_stop s m args below meth c 5 w 0 0 Q S 41 [(0, .ref v0)] []) : K p l e rX13_stop s m args below meth c 5 w 0 0 Q S 38 [(0, .ref v0), (1, .int v1), (2, .int v2), (3, .int v3)] [.int t0] := by
  refine k_if_ne (tgt := 47) B dX13_stop_38 (by decide) (fun c => ?_) (fun c => ?_)
  · exact kt c
  · refine k_sub [0] rfl ?_
    exact kf c
theorem bX13_stop_41 (B : Bd p s m args meth c cX13_stop 5 (wsOf yX13_stop cX13_stop 5 (some .int)) RX13 w (some .int) "stop") {v0 : Nat} {post : Int32 → St → Prop} {Q : State → Prop} (hc : ConI l yX13_no (wsOf yX13_no cX13_no 2 (some .int)) rX13_no w S [.ref v0, .int 1] post) (h1 : kd S v0 = 15) (kk : ∀ (r : Int32) (S' : St), post r S' → K p l e rX13_stop s m args below meth c 5 w 0 0 Q S' 46 [] [.int r]) : K p l e rX13_stop s m args below meth c 5 w 0 0 Q S 41 [(0, .ref v0)] [] := by
  refine k_aload_n B 0 rfl rfl dX13_stop_41 ?_
  refine k_iconst (v := 1) B (by decide) dX13_stop_42 ?_
  refine callV_I (st := []) B [.int 1] (hc) (cwV 1 B.1.2.2.2.2 (gV qlRX13_120 qiX13_no qeX13_no qzRX13 qcX13_no) rfl rfl rfl (by decide +kernel) ⟨Nat.le_of_ble_eq_true rfl, Nat.le_of_ble_eq_true rfl⟩) rfl rfl (by decide) h1 (Nat.le_of_ble_eq_true rfl) rfl dX13_stop_43 ⟨Nat.le_of_ble_eq_true rfl, Nat.le_of_ble_eq_true rfl⟩ (fun r S' hp => ?_)
  refine k_sub [] rfl ?_
  exact kk r S' hp
theorem bX13_stop_46 (B : Bd p s m args meth c cX13_stop 5 (wsOf yX13_stop cX13_stop 5 (some .int)) RX13 w (some .int) "stop") {t0 : Int32} {post : Int32 → St → Prop}  (hq : post t0 S) : K p l e rX13_stop s m args below meth c 5 w 0 0 (MQ below (va_Qi post (fun S' t => Hd w S' t.heap) (wA w)) args s 0 0 (wA w)) S 46 [] [.int t0] := by
  exact ret_I B rfl dX13_stop_46 (hq)
theorem bX13_stop_47 (B : Bd p s m args meth c cX13_stop 5 (wsOf yX13_stop cX13_stop 5 (some .int)) RX13 w (some .int) "stop") {v0 : Nat} {v1 : Int32} {v2 : Int32} {v3 : Int32} {post : Int32 → St → Prop} {Q : State → Prop} (hc : ConI l yX13_routeCost (wsOf yX13_routeCost cX13_routeCost 2 (some .int)) rX13_routeCost w S [.ref v0, .int v1] post) (h1 : kd S v0 = 15) (kk : ∀ (r : Int32) (S' : St), post r S' → K p l e rX13_stop s m args below meth c 5 w 0 0 Q S' 52 [(0, .ref v0), (2, .int v2), (3, .int v3)] [.int r]) : K p l e rX13_stop s m args below meth c 5 w 0 0 Q S 47 [(0, .ref v0), (1, .int v1), (2, .int v2), (3, .int v3)] [] := by
  refine k_aload_n B 0 rfl rfl dX13_stop_47 ?_
  refine k_iload_n B 1 rfl rfl dX13_stop_48 ?_
  refine callV_I (st := []) B [.int v1] (hc) (cwV 1 B.1.2.2.2.2 (gV qlRX13_210 qiX13_routeCost qeX13_routeCost qzRX13 qcX13_routeCost) rfl rfl rfl (by decide +kernel) ⟨Nat.le_of_ble_eq_true rfl, Nat.le_of_ble_eq_true rfl⟩) rfl rfl (by decide) h1 (Nat.le_of_ble_eq_true rfl) rfl dX13_stop_49 ⟨Nat.le_of_ble_eq_true rfl, Nat.le_of_ble_eq_true rfl⟩ (fun r S' hp => ?_)
  refine k_sub [0, 2, 3] rfl ?_
  exact kk r S' hp
theorem bX13_stop_52 (B : Bd p s m args meth c cX13_stop 5 (wsOf yX13_stop cX13_stop 5 (some .int)) RX13 w (some .int) "stop") {v0 : Nat} {v2 : Int32} {v3 : Int32} {t0 : Int32} {x1 : Nat} {x2 : Nat} {x3 : Nat} {x4 : Nat} {Q : State → Prop} (h1 : kd S v0 = 15) (h2 : gP S 903 v0 = some x1) (h3 : gP S 916 v0 = some x2) (h4 : gP S 921 v0 = some x3) (h5 : kd S x3 = 21) (h6 : vp_in v2 (ln S x3)) (h7 : kd S x2 = 21) (h8 : vp_in ((rI S x3) v2.toNatClampNeg) (ln S x2)) (h9 : kd S x1 = 21) (h10 : vp_in ((rI S x2) ((rI S x3) v2.toNatClampNeg).toNatClampNeg) (ln S x1)) (h11 : gP S 923 v0 = some x4) (h12 : kd S x4 = 21) (h13 : vp_in v2 (ln S x4)) (kt : ¬ v3 = 0 → K p l e rX13_stop s m args below meth c 5 w 0 0 Q S 99 [(0, .ref v0), (2, .int v2), (3, .int v3), (4, .int ((((rI S x1) ((rI S x2) ((rI S x3) v2.toNatClampNeg).toNatClampNeg).toNatClampNeg) >>> (((((rI S x4) v2.toNatClampNeg) / 60) - (((rI S x4) v2.toNatClampNeg) / 60) / 24 * 24) &&& 31)) &&& 1))] []) (kf : v3 = 0 → K p l e rX13_stop s m args below meth c 5 w 0 0 Q S 90 [(0, .ref v0), (2, .int v2)] []) : K p l e rX13_stop s m args below meth c 5 w 0 0 Q S 52 [(0, .ref v0), (2, .int v2), (3, .int v3)] [.int t0] := by
  refine k_pop B rfl dX13_stop_52 ?_
  refine k_aload_n B 0 rfl rfl dX13_stop_53 ?_
  refine k_getP (f := 903) (r := gP S 903 v0) B 14 7 rfl (by decide) rfl (by decide) rfl rfl (fun w h => in_of (uw_14 w h)) (in_of qfRX13_26) dX13_stop_54 h1 rfl ?_
  rw [h2]; change K _ _ _ _ _ _ _ _ _ _ _ _ _ _ _ _ _ _ (.ref x1 :: _)
  refine k_aload_n B 0 rfl rfl dX13_stop_57 ?_
  refine k_getP (f := 916) (r := gP S 916 v0) B 14 20 rfl (by decide) rfl (by decide) rfl rfl (fun w h => in_of (uw_14 w h)) (in_of qfRX13_56) dX13_stop_58 h1 rfl ?_
  rw [h3]; change K _ _ _ _ _ _ _ _ _ _ _ _ _ _ _ _ _ _ (.ref x2 :: _)
  refine k_aload_n B 0 rfl rfl dX13_stop_61 ?_
  refine k_getP (f := 921) (r := gP S 921 v0) B 14 25 rfl (by decide) rfl (by decide) rfl rfl (fun w h => in_of (uw_14 w h)) (in_of qfRX13_77) dX13_stop_62 h1 rfl ?_
  rw [h4]; change K _ _ _ _ _ _ _ _ _ _ _ _ _ _ _ _ _ _ (.ref x3 :: _)
  refine k_iload_n B 1 rfl rfl dX13_stop_65 ?_
  refine k_iald (v := (rI S x3) v2.toNatClampNeg) B dX13_stop_66 h5 h6 rfl ?_
  refine k_iald (v := (rI S x2) ((rI S x3) v2.toNatClampNeg).toNatClampNeg) B dX13_stop_67 h7 h8 rfl ?_
  refine k_iald (v := (rI S x1) ((rI S x2) ((rI S x3) v2.toNatClampNeg).toNatClampNeg).toNatClampNeg) B dX13_stop_68 h9 h10 rfl ?_
  refine k_aload_n B 0 rfl rfl dX13_stop_69 ?_
  refine k_getP (f := 923) (r := gP S 923 v0) B 14 27 rfl (by decide) rfl (by decide) rfl rfl (fun w h => in_of (uw_14 w h)) (in_of qfRX13_80) dX13_stop_70 h1 rfl ?_
  rw [h11]; change K _ _ _ _ _ _ _ _ _ _ _ _ _ _ _ _ _ _ (.ref x4 :: _)
  refine k_iload_n B 1 rfl rfl dX13_stop_73 ?_
  refine k_iald (v := (rI S x4) v2.toNatClampNeg) B dX13_stop_74 h12 h13 rfl ?_
  refine k_bipush (v := 60) B (by decide) dX13_stop_75 ?_
  refine k_idiv B (by decide) dX13_stop_77 ?_
  refine k_bipush (v := 24) B (by decide) dX13_stop_78 ?_
  refine k_irem B (by decide) dX13_stop_80 ?_
  refine k_ishr B dX13_stop_81 ?_
  refine k_iconst (v := 1) B (by decide) dX13_stop_82 ?_
  refine k_iand B dX13_stop_83 ?_
  refine k_istore (lst' := [(4, .int ((((rI S x1) ((rI S x2) ((rI S x3) v2.toNatClampNeg).toNatClampNeg).toNatClampNeg) >>> (((((rI S x4) v2.toNatClampNeg) / 60) - (((rI S x4) v2.toNatClampNeg) / 60) / 24 * 24) &&& 31)) &&& 1)), (0, .ref v0), (2, .int v2), (3, .int v3)]) B (by decide) rfl dX13_stop_84 ?_
  refine k_iload_n B 3 rfl rfl dX13_stop_86 ?_
  refine k_if_ne (tgt := 99) B dX13_stop_87 (by decide) (fun c => ?_) (fun c => ?_)
  · refine k_sub [1, 2, 3, 0] rfl ?_
    exact kt c
  · refine k_sub [1, 2] rfl ?_
    exact kf c
theorem bX13_stop_90 (B : Bd p s m args meth c cX13_stop 5 (wsOf yX13_stop cX13_stop 5 (some .int)) RX13 w (some .int) "stop") {v0 : Nat} {v2 : Int32} {x1 : Nat} {Q : State → Prop} (h1 : kd S v0 = 15) (h2 : gP S 923 v0 = some x1) (h3 : kd S x1 = 21) (h4 : vp_in v2 (ln S x1)) (kk : K p l e rX13_stop s m args below meth c 5 w 0 0 Q S 129 [] [.int ((rI S x1) v2.toNatClampNeg)]) : K p l e rX13_stop s m args below meth c 5 w 0 0 Q S 90 [(0, .ref v0), (2, .int v2)] [] := by
  refine k_aload_n B 0 rfl rfl dX13_stop_90 ?_
  refine k_getP (f := 923) (r := gP S 923 v0) B 14 27 rfl (by decide) rfl (by decide) rfl rfl (fun w h => in_of (uw_14 w h)) (in_of qfRX13_80) dX13_stop_91 h1 rfl ?_
  rw [h2]; change K _ _ _ _ _ _ _ _ _ _ _ _ _ _ _ _ _ _ (.ref x1 :: _)
  refine k_iload_n B 1 rfl rfl dX13_stop_94 ?_
  refine k_iald (v := (rI S x1) v2.toNatClampNeg) B dX13_stop_95 h3 h4 rfl ?_
  refine k_goto (tgt := 129) B dX13_stop_96 (by decide) ?_
  refine k_sub [] rfl ?_
  exact kk
theorem bX13_stop_99 (B : Bd p s m args meth c cX13_stop 5 (wsOf yX13_stop cX13_stop 5 (some .int)) RX13 w (some .int) "stop") {v0 : Nat} {v2 : Int32} {v3 : Int32} {v4 : Int32} {Q : State → Prop}  (kt : ¬ v3 = 1 → K p l e rX13_stop s m args below meth c 5 w 0 0 Q S 113 [(0, .ref v0), (2, .int v2), (3, .int v3), (4, .int v4)] []) (kf : v3 = 1 → K p l e rX13_stop s m args below meth c 5 w 0 0 Q S 104 [(0, .ref v0), (2, .int v2)] []) : K p l e rX13_stop s m args below meth c 5 w 0 0 Q S 99 [(0, .ref v0), (2, .int v2), (3, .int v3), (4, .int v4)] [] := by
  refine k_iload_n B 2 rfl rfl dX13_stop_99 ?_
  refine k_iconst (v := 1) B (by decide) dX13_stop_100 ?_
  refine k_icmp_ne (tgt := 113) B dX13_stop_101 (by decide) (fun c => ?_) (fun c => ?_)
  · exact kt c
  · refine k_sub [0, 1] rfl ?_
    exact kf c
theorem bX13_stop_104 (B : Bd p s m args meth c cX13_stop 5 (wsOf yX13_stop cX13_stop 5 (some .int)) RX13 w (some .int) "stop") {v0 : Nat} {v2 : Int32} {x1 : Nat} {Q : State → Prop} (h1 : kd S v0 = 15) (h2 : gP S 924 v0 = some x1) (h3 : kd S x1 = 21) (h4 : vp_in v2 (ln S x1)) (kk : K p l e rX13_stop s m args below meth c 5 w 0 0 Q S 129 [] [.int ((rI S x1) v2.toNatClampNeg)]) : K p l e rX13_stop s m args below meth c 5 w 0 0 Q S 104 [(0, .ref v0), (2, .int v2)] [] := by
  refine k_aload_n B 0 rfl rfl dX13_stop_104 ?_
  refine k_getP (f := 924) (r := gP S 924 v0) B 14 28 rfl (by decide) rfl (by decide) rfl rfl (fun w h => in_of (uw_14 w h)) (in_of qfRX13_83) dX13_stop_105 h1 rfl ?_
  rw [h2]; change K _ _ _ _ _ _ _ _ _ _ _ _ _ _ _ _ _ _ (.ref x1 :: _)
  refine k_iload_n B 1 rfl rfl dX13_stop_108 ?_
  refine k_iald (v := (rI S x1) v2.toNatClampNeg) B dX13_stop_109 h3 h4 rfl ?_
  refine k_goto (tgt := 129) B dX13_stop_110 (by decide) ?_
  refine k_sub [] rfl ?_
  exact kk
theorem bX13_stop_113 (B : Bd p s m args meth c cX13_stop 5 (wsOf yX13_stop cX13_stop 5 (some .int)) RX13 w (some .int) "stop") {v0 : Nat} {v2 : Int32} {v3 : Int32} {v4 : Int32} {Q : State → Prop}  (kt : ¬ v3 = 2 → K p l e rX13_stop s m args below meth c 5 w 0 0 Q S 127 [(4, .int v4)] []) (kf : v3 = 2 → K p l e rX13_stop s m args below meth c 5 w 0 0 Q S 118 [(0, .ref v0), (2, .int v2)] []) : K p l e rX13_stop s m args below meth c 5 w 0 0 Q S 113 [(0, .ref v0), (2, .int v2), (3, .int v3), (4, .int v4)] [] := by
  refine k_iload_n B 2 rfl rfl dX13_stop_113 ?_
  refine k_iconst (v := 2) B (by decide) dX13_stop_114 ?_
  refine k_icmp_ne (tgt := 127) B dX13_stop_115 (by decide) (fun c => ?_) (fun c => ?_)
  · refine k_sub [3] rfl ?_
    exact kt c
  · refine k_sub [0, 1] rfl ?_
    exact kf c
theorem bX13_stop_118 (B : Bd p s m args meth c cX13_stop 5 (wsOf yX13_stop cX13_stop 5 (some .int)) RX13 w (some .int) "stop") {v0 : Nat} {v2 : Int32} {x1 : Nat} {Q : State → Prop} (h1 : kd S v0 = 15) (h2 : gP S 925 v0 = some x1) (h3 : kd S x1 = 21) (h4 : vp_in v2 (ln S x1)) (kk : K p l e rX13_stop s m args below meth c 5 w 0 0 Q S 129 [] [.int ((rI S x1) v2.toNatClampNeg)]) : K p l e rX13_stop s m args below meth c 5 w 0 0 Q S 118 [(0, .ref v0), (2, .int v2)] [] := by
  refine k_aload_n B 0 rfl rfl dX13_stop_118 ?_
  refine k_getP (f := 925) (r := gP S 925 v0) B 14 29 rfl (by decide) rfl (by decide) rfl rfl (fun w h => in_of (uw_14 w h)) (in_of qfRX13_86) dX13_stop_119 h1 rfl ?_
  rw [h2]; change K _ _ _ _ _ _ _ _ _ _ _ _ _ _ _ _ _ _ (.ref x1 :: _)
  refine k_iload_n B 1 rfl rfl dX13_stop_122 ?_
  refine k_iald (v := (rI S x1) v2.toNatClampNeg) B dX13_stop_123 h3 h4 rfl ?_
  refine k_goto (tgt := 129) B dX13_stop_124 (by decide) ?_
  refine k_sub [] rfl ?_
  exact kk
theorem bX13_stop_127 (B : Bd p s m args meth c cX13_stop 5 (wsOf yX13_stop cX13_stop 5 (some .int)) RX13 w (some .int) "stop") {v4 : Int32} {Q : State → Prop}  (kk : K p l e rX13_stop s m args below meth c 5 w 0 0 Q S 129 [] [.int v4]) : K p l e rX13_stop s m args below meth c 5 w 0 0 Q S 127 [(4, .int v4)] [] := by
  refine k_iload B 0 rfl dX13_stop_127 ?_
  refine k_sub [] rfl ?_
  exact kk
theorem bX13_stop_129 (B : Bd p s m args meth c cX13_stop 5 (wsOf yX13_stop cX13_stop 5 (some .int)) RX13 w (some .int) "stop") {t0 : Int32} {post : Int32 → St → Prop}  (hq : post t0 S) : K p l e rX13_stop s m args below meth c 5 w 0 0 (MQ below (va_Qi post (fun S' t => Hd w S' t.heap) (wA w)) args s 0 0 (wA w)) S 129 [] [.int t0] := by
  exact ret_I B rfl dX13_stop_129 (hq)
theorem bX13_adds_0 (B : Bd p s m args meth c cX13_adds 4 (wsOf yX13_adds cX13_adds 4 (some .int)) RX13 w (some .int) "adds") {v0 : Nat} {v1 : Int32} {v2 : Int32} {v3 : Int32} {post : Int32 → St → Prop} {Q : State → Prop} (h1 : kd S v0 = 15) (hc : ConI l yX13_isParcel (wsOf yX13_isParcel cX13_isParcel 2 (some .boolean)) rX13_isParcel w (sI S 896 v0 0) [.ref v0, .int v1] post) (kk : ∀ (r : Int32) (S' : St), post r S' → K p l e rX13_adds s m args below meth c 4 w 0 0 Q S' 10 [(0, .ref v0), (1, .int v1), (2, .int v2), (3, .int v3)] [.int r]) : K p l e rX13_adds s m args below meth c 4 w 0 0 Q S 0 [(0, .ref v0), (1, .int v1), (2, .int v2), (3, .int v3)] [] := by
  refine k_aload_n B 0 rfl rfl dX13_adds_0 ?_
  refine k_iconst (v := 0) B (by decide) dX13_adds_1 ?_
  refine k_putI (f := 896) B 14 0 rfl (by decide) rfl (by decide) rfl rfl (fun w h => in_of (uw_14 w h)) (in_of qfRX13_95) tyX13 tyX13_ok nmX13 rfl (tyX13_ok 0 (by decide)) dX13_adds_2 h1 ?_
  refine k_aload_n B 0 rfl rfl dX13_adds_5 ?_
  refine k_iload_n B 1 rfl rfl dX13_adds_6 ?_
  refine callV_I (st := []) B [.int v1] (hc) (cwV 1 B.1.2.2.2.2 (gV qlRX13_163 qiX13_isParcel qeX13_isParcel qzRX13 qcX13_isParcel) rfl rfl rfl (by decide +kernel) ⟨Nat.le_of_ble_eq_true rfl, Nat.le_of_ble_eq_true rfl⟩) rfl rfl (by decide) h1 (Nat.le_of_ble_eq_true rfl) rfl dX13_adds_7 ⟨Nat.le_of_ble_eq_true rfl, Nat.le_of_ble_eq_true rfl⟩ (fun r S' hp => ?_)
  exact kk r S' hp
theorem bX13_adds_10 (B : Bd p s m args meth c cX13_adds 4 (wsOf yX13_adds cX13_adds 4 (some .int)) RX13 w (some .int) "adds") {v0 : Nat} {v1 : Int32} {v2 : Int32} {v3 : Int32} {t0 : Int32} {Q : State → Prop}  (kt : t0 = 0 → K p l e rX13_adds s m args below meth c 4 w 0 0 Q S 38 [(0, .ref v0)] []) (kf : ¬ t0 = 0 → K p l e rX13_adds s m args below meth c 4 w 0 0 Q S 13 [(0, .ref v0), (1, .int v1), (2, .int v2), (3, .int v3)] []) : K p l e rX13_adds s m args below meth c 4 w 0 0 Q S 10 [(0, .ref v0), (1, .int v1), (2, .int v2), (3, .int v3)] [.int t0] := by
  refine k_if_eq (tgt := 38) B dX13_adds_10 (by decide) (fun c => ?_) (fun c => ?_)
  · refine k_sub [0] rfl ?_
    exact kt c
  · exact kf c
theorem bX13_adds_13 (B : Bd p s m args meth c cX13_adds 4 (wsOf yX13_adds cX13_adds 4 (some .int)) RX13 w (some .int) "adds") {v0 : Nat} {v1 : Int32} {v2 : Int32} {v3 : Int32} {post : Int32 → St → Prop} {Q : State → Prop} (hc : ConI l yX13_isVan (wsOf yX13_isVan cX13_isVan 2 (some .boolean)) rX13_isVan w S [.ref v0, .int v2] post) (h1 : kd S v0 = 15) (kk : ∀ (r : Int32) (S' : St), post r S' → K p l e rX13_adds s m args below meth c 4 w 0 0 Q S' 18 [(0, .ref v0), (1, .int v1), (2, .int v2), (3, .int v3)] [.int r]) : K p l e rX13_adds s m args below meth c 4 w 0 0 Q S 13 [(0, .ref v0), (1, .int v1), (2, .int v2), (3, .int v3)] [] := by
  refine k_aload_n B 0 rfl rfl dX13_adds_13 ?_
  refine k_iload_n B 2 rfl rfl dX13_adds_14 ?_
  refine callV_I (st := []) B [.int v2] (hc) (cwV 1 B.1.2.2.2.2 (gV qlRX13_218 qiX13_isVan qeX13_isVan qzRX13 qcX13_isVan) rfl rfl rfl (by decide +kernel) ⟨Nat.le_of_ble_eq_true rfl, Nat.le_of_ble_eq_true rfl⟩) rfl rfl (by decide) h1 (Nat.le_of_ble_eq_true rfl) rfl dX13_adds_15 ⟨Nat.le_of_ble_eq_true rfl, Nat.le_of_ble_eq_true rfl⟩ (fun r S' hp => ?_)
  exact kk r S' hp
theorem bX13_adds_18 (B : Bd p s m args meth c cX13_adds 4 (wsOf yX13_adds cX13_adds 4 (some .int)) RX13 w (some .int) "adds") {v0 : Nat} {v1 : Int32} {v2 : Int32} {v3 : Int32} {t0 : Int32} {Q : State → Prop}  (kt : t0 = 0 → K p l e rX13_adds s m args below meth c 4 w 0 0 Q S 38 [(0, .ref v0)] []) (kf : ¬ t0 = 0 → K p l e rX13_adds s m args below meth c 4 w 0 0 Q S 21 [(0, .ref v0), (1, .int v1), (2, .int v2), (3, .int v3)] []) : K p l e rX13_adds s m args below meth c 4 w 0 0 Q S 18 [(0, .ref v0), (1, .int v1), (2, .int v2), (3, .int v3)] [.int t0] := by
  refine k_if_eq (tgt := 38) B dX13_adds_18 (by decide) (fun c => ?_) (fun c => ?_)
  · refine k_sub [0] rfl ?_
    exact kt c
  · exact kf c
theorem bX13_adds_21 (B : Bd p s m args meth c cX13_adds 4 (wsOf yX13_adds cX13_adds 4 (some .int)) RX13 w (some .int) "adds") {v0 : Nat} {v1 : Int32} {v2 : Int32} {v3 : Int32} {x1 : Nat} {x2 : Nat} {post : Int32 → St → Prop} {Q : State → Prop} (h1 : kd S v0 = 15) (h2 : gP S 919 v0 = some x1) (h3 : kd S x1 = 14) (h4 : gP S 840 x1 = some x2) (h5 : kd S x2 = 21) (h6 : vp_in v2 (ln S x2)) (hc : ConI l yX13_isIn (wsOf yX13_isIn cX13_isIn 3 (some .boolean)) rX13_isIn w S [.int v3, .int 0, .int ((rI S x2) v2.toNatClampNeg)] post) (kk : ∀ (r : Int32) (S' : St), post r S' → K p l e rX13_adds s m args below meth c 4 w 0 0 Q S' 35 [(0, .ref v0), (1, .int v1), (2, .int v2), (3, .int v3)] [.int r]) : K p l e rX13_adds s m args below meth c 4 w 0 0 Q S 21 [(0, .ref v0), (1, .int v1), (2, .int v2), (3, .int v3)] [] := by
  refine k_iload_n B 3 rfl rfl dX13_adds_21 ?_
  refine k_iconst (v := 0) B (by decide) dX13_adds_22 ?_
  refine k_aload_n B 0 rfl rfl dX13_adds_23 ?_
  refine k_getP (f := 919) (r := gP S 919 v0) B 14 23 rfl (by decide) rfl (by decide) rfl rfl (fun w h => in_of (uw_14 w h)) (in_of qfRX13_70) dX13_adds_24 h1 rfl ?_
  rw [h2]; change K _ _ _ _ _ _ _ _ _ _ _ _ _ _ _ _ _ _ (.ref x1 :: _)
  refine k_getPN (f := 840) (r := gP S 840 x1) B 13 8 rfl (by decide) rfl (by decide) rfl rfl (fun w h => in_of (uw_13 w h)) "LastMileModel" (nzF_5 B.2.2.2.1.2.2.2.1) dX13_adds_27 h3 rfl ?_
  rw [h4]; change K _ _ _ _ _ _ _ _ _ _ _ _ _ _ _ _ _ _ (.ref x2 :: _)
  refine k_iload_n B 2 rfl rfl dX13_adds_30 ?_
  refine k_iald (v := (rI S x2) v2.toNatClampNeg) B dX13_adds_31 h5 h6 rfl ?_
  refine callS_I (st := []) B [.int v3, .int 0, .int ((rI S x2) v2.toNatClampNeg)] (hc) (va_cwS 3 B.1.2.2.2.2 (gS qlRX13_98 qsX13_isIn qzRX13 qcX13_isIn) rfl rfl rfl (by decide +kernel) ⟨Nat.le_of_ble_eq_true rfl, Nat.le_of_ble_eq_true rfl⟩) rfl (Nat.le_of_ble_eq_true rfl) rfl dX13_adds_32 ⟨Nat.le_of_ble_eq_true rfl, Nat.le_of_ble_eq_true rfl⟩ (fun r S' hp => ?_)
  exact kk r S' hp
theorem bX13_adds_35 (B : Bd p s m args meth c cX13_adds 4 (wsOf yX13_adds cX13_adds 4 (some .int)) RX13 w (some .int) "adds") {v0 : Nat} {v1 : Int32} {v2 : Int32} {v3 : Int32} {t0 : Int32} {Q : State → Prop}  (kt : ¬ t0 = 0 → K p l e rX13_adds s m args below meth c 4 w 0 0 Q S 44 [(0, .ref v0), (1, .int v1), (2, .int v2), (3, .int v3)] []) (kf : t0 = 0 → K p l e rX13_adds s m args below meth c 4 w 0 0 Q S 38 [(0, .ref v0)] []) : K p l e rX13_adds s m args below meth c 4 w 0 0 Q S 35 [(0, .ref v0), (1, .int v1), (2, .int v2), (3, .int v3)] [.int t0] := by
  refine k_if_ne (tgt := 44) B dX13_adds_35 (by decide) (fun c => ?_) (fun c => ?_)
  · exact kt c
  · refine k_sub [0] rfl ?_
    exact kf c
theorem bX13_adds_38 (B : Bd p s m args meth c cX13_adds 4 (wsOf yX13_adds cX13_adds 4 (some .int)) RX13 w (some .int) "adds") {v0 : Nat} {post : Int32 → St → Prop} {Q : State → Prop} (hc : ConI l yX13_no (wsOf yX13_no cX13_no 2 (some .int)) rX13_no w S [.ref v0, .int 1] post) (h1 : kd S v0 = 15) (kk : ∀ (r : Int32) (S' : St), post r S' → K p l e rX13_adds s m args below meth c 4 w 0 0 Q S' 43 [] [.int r]) : K p l e rX13_adds s m args below meth c 4 w 0 0 Q S 38 [(0, .ref v0)] [] := by
  refine k_aload_n B 0 rfl rfl dX13_adds_38 ?_
  refine k_iconst (v := 1) B (by decide) dX13_adds_39 ?_
  refine callV_I (st := []) B [.int 1] (hc) (cwV 1 B.1.2.2.2.2 (gV qlRX13_120 qiX13_no qeX13_no qzRX13 qcX13_no) rfl rfl rfl (by decide +kernel) ⟨Nat.le_of_ble_eq_true rfl, Nat.le_of_ble_eq_true rfl⟩) rfl rfl (by decide) h1 (Nat.le_of_ble_eq_true rfl) rfl dX13_adds_40 ⟨Nat.le_of_ble_eq_true rfl, Nat.le_of_ble_eq_true rfl⟩ (fun r S' hp => ?_)
  refine k_sub [] rfl ?_
  exact kk r S' hp
theorem bX13_adds_43 (B : Bd p s m args meth c cX13_adds 4 (wsOf yX13_adds cX13_adds 4 (some .int)) RX13 w (some .int) "adds") {t0 : Int32} {post : Int32 → St → Prop}  (hq : post t0 S) : K p l e rX13_adds s m args below meth c 4 w 0 0 (MQ below (va_Qi post (fun S' t => Hd w S' t.heap) (wA w)) args s 0 0 (wA w)) S 43 [] [.int t0] := by
  exact ret_I B rfl dX13_adds_43 (hq)
theorem bX13_adds_44 (B : Bd p s m args meth c cX13_adds 4 (wsOf yX13_adds cX13_adds 4 (some .int)) RX13 w (some .int) "adds") {v0 : Nat} {v1 : Int32} {v2 : Int32} {v3 : Int32} {post : Int32 → St → Prop} {Q : State → Prop} (hc : ConI l yX13_more (wsOf yX13_more cX13_more 6 (some .int)) rX13_more w S [.ref v0, .int v1, .int v2, .int v3] post) (h1 : kd S v0 = 15) (kk : ∀ (r : Int32) (S' : St), post r S' → K p l e rX13_adds s m args below meth c 4 w 0 0 Q S' 51 [] [.int r]) : K p l e rX13_adds s m args below meth c 4 w 0 0 Q S 44 [(0, .ref v0), (1, .int v1), (2, .int v2), (3, .int v3)] [] := by
  refine k_aload_n B 0 rfl rfl dX13_adds_44 ?_
  refine k_iload_n B 1 rfl rfl dX13_adds_45 ?_
  refine k_iload_n B 2 rfl rfl dX13_adds_46 ?_
  refine k_iload_n B 3 rfl rfl dX13_adds_47 ?_
  refine callV_I (st := []) B [.int v1, .int v2, .int v3] (hc) (cwV 3 B.1.2.2.2.2 (gV qlRX13_224 qiX13_more qeX13_more qzRX13 qcX13_more) rfl rfl rfl (by decide +kernel) ⟨Nat.le_of_ble_eq_true rfl, Nat.le_of_ble_eq_true rfl⟩) rfl rfl (by decide) h1 (Nat.le_of_ble_eq_true rfl) rfl dX13_adds_48 ⟨Nat.le_of_ble_eq_true rfl, Nat.le_of_ble_eq_true rfl⟩ (fun r S' hp => ?_)
  refine k_sub [] rfl ?_
  exact kk r S' hp
theorem bX13_adds_51 (B : Bd p s m args meth c cX13_adds 4 (wsOf yX13_adds cX13_adds 4 (some .int)) RX13 w (some .int) "adds") {t0 : Int32} {post : Int32 → St → Prop}  (hq : post t0 S) : K p l e rX13_adds s m args below meth c 4 w 0 0 (MQ below (va_Qi post (fun S' t => Hd w S' t.heap) (wA w)) args s 0 0 (wA w)) S 51 [] [.int t0] := by
  exact ret_I B rfl dX13_adds_51 (hq)
theorem bX13_best_0 (B : Bd p s m args meth c cX13_best 6 (wsOf yX13_best cX13_best 6 (some .int)) RX13 w (some .int) "best") {v0 : Nat} {v1 : Int32} {Q : State → Prop} (h1 : kd S v0 = 15) (kk : K p l e rX13_best s m args below meth c 6 w 0 0 Q (sI S 931 v0 1000000) 10 [(0, .ref v0), (1, .int v1), (2, .int (-1)), (3, .int 0)] []) : K p l e rX13_best s m args below meth c 6 w 0 0 Q S 0 [(0, .ref v0), (1, .int v1)] [] := by
  refine k_iconst (v := (-1)) B (by decide) dX13_best_0 ?_
  refine k_istore_n (lst' := [(2, .int (-1)), (0, .ref v0), (1, .int v1)]) B rfl (by decide) rfl dX13_best_1 ?_
  refine k_aload_n B 1 rfl rfl dX13_best_2 ?_
  refine k_ldc (v := 1000000) B (in_of qtRX13_217) dX13_best_3 ?_
  refine k_putI (f := 931) B 14 35 rfl (by decide) rfl (by decide) rfl rfl (fun w h => in_of (uw_14 w h)) (in_of qfRX13_237) tyX13 tyX13_ok nmX13 rfl (tyX13_ok 35 (by decide)) dX13_best_5 h1 ?_
  refine k_iconst (v := 0) B (by decide) dX13_best_8 ?_
  refine k_istore_n (lst' := [(3, .int 0), (2, .int (-1)), (0, .ref v0), (1, .int v1)]) B rfl (by decide) rfl dX13_best_9 ?_
  refine k_sub [2, 3, 1, 0] rfl ?_
  exact kk
theorem bX13_best_10 (B : Bd p s m args meth c cX13_best 6 (wsOf yX13_best cX13_best 6 (some .int)) RX13 w (some .int) "best") {v0 : Nat} {v1 : Int32} {v2 : Int32} {v3 : Int32} {Q : State → Prop} (h1 : kd S v0 = 15) (kt : (gI S 909 v0) ≤ v3 → K p l e rX13_best s m args below meth c 6 w 0 0 Q S 83 [(2, .int v2)] []) (kf : ¬ (gI S 909 v0) ≤ v3 → K p l e rX13_best s m args below meth c 6 w 0 0 Q S 18 [(0, .ref v0), (1, .int v1), (2, .int v2), (3, .int v3)] []) : K p l e rX13_best s m args below meth c 6 w 0 0 Q S 10 [(0, .ref v0), (1, .int v1), (2, .int v2), (3, .int v3)] [] := by
  refine k_iload_n B 3 rfl rfl dX13_best_10 ?_
  refine k_aload_n B 0 rfl rfl dX13_best_11 ?_
  refine k_getI (f := 909) (v := gI S 909 v0) B 14 13 rfl (by decide) rfl (by decide) rfl rfl (fun w h => in_of (uw_14 w h)) (in_of qfRX13_114) dX13_best_12 h1 rfl ?_
  refine k_icmp_ge (tgt := 83) B dX13_best_15 (by decide) (fun c => ?_) (fun c => ?_)
  · refine k_sub [2] rfl ?_
    exact kt c
  · exact kf c
theorem bX13_best_18 (B : Bd p s m args meth c cX13_best 6 (wsOf yX13_best cX13_best 6 (some .int)) RX13 w (some .int) "best") {v0 : Nat} {v1 : Int32} {v2 : Int32} {v3 : Int32} {Q : State → Prop}  (kk : K p l e rX13_best s m args below meth c 6 w 0 0 Q S 21 [(0, .ref v0), (1, .int v1), (2, .int v2), (3, .int v3), (4, .int 0)] []) : K p l e rX13_best s m args below meth c 6 w 0 0 Q S 18 [(0, .ref v0), (1, .int v1), (2, .int v2), (3, .int v3)] [] := by
  refine k_iconst (v := 0) B (by decide) dX13_best_18 ?_
  refine k_istore (lst' := [(4, .int 0), (0, .ref v0), (1, .int v1), (2, .int v2), (3, .int v3)]) B (by decide) rfl dX13_best_19 ?_
  refine k_sub [1, 2, 3, 4, 0] rfl ?_
  exact kk
theorem bX13_best_21 (B : Bd p s m args meth c cX13_best 6 (wsOf yX13_best cX13_best 6 (some .int)) RX13 w (some .int) "best") {v0 : Nat} {v1 : Int32} {v2 : Int32} {v3 : Int32} {v4 : Int32} {x1 : Nat} {x2 : Nat} {Q : State → Prop} (h1 : kd S v0 = 15) (h2 : gP S 919 v0 = some x1) (h3 : kd S x1 = 14) (h4 : gP S 840 x1 = some x2) (h5 : kd S x2 = 21) (h6 : vp_in v3 (ln S x2)) (kt : ((rI S x2) v3.toNatClampNeg) < v4 → K p l e rX13_best s m args below meth c 6 w 0 0 Q S 77 [(0, .ref v0), (1, .int v1), (2, .int v2), (3, .int v3)] []) (kf : ¬ ((rI S x2) v3.toNatClampNeg) < v4 → K p l e rX13_best s m args below meth c 6 w 0 0 Q S 35 [(0, .ref v0), (1, .int v1), (2, .int v2), (3, .int v3), (4, .int v4)] []) : K p l e rX13_best s m args below meth c 6 w 0 0 Q S 21 [(0, .ref v0), (1, .int v1), (2, .int v2), (3, .int v3), (4, .int v4)] [] := by
  refine k_iload B 4 rfl dX13_best_21 ?_
  refine k_aload_n B 0 rfl rfl dX13_best_23 ?_
  refine k_getP (f := 919) (r := gP S 919 v0) B 14 23 rfl (by decide) rfl (by decide) rfl rfl (fun w h => in_of (uw_14 w h)) (in_of qfRX13_70) dX13_best_24 h1 rfl ?_
  rw [h2]; change K _ _ _ _ _ _ _ _ _ _ _ _ _ _ _ _ _ _ (.ref x1 :: _)
  refine k_getPN (f := 840) (r := gP S 840 x1) B 13 8 rfl (by decide) rfl (by decide) rfl rfl (fun w h => in_of (uw_13 w h)) "LastMileModel" (nzF_5 B.2.2.2.1.2.2.2.1) dX13_best_27 h3 rfl ?_
  rw [h4]; change K _ _ _ _ _ _ _ _ _ _ _ _ _ _ _ _ _ _ (.ref x2 :: _)
  refine k_iload_n B 3 rfl rfl dX13_best_30 ?_
  refine k_iald (v := (rI S x2) v3.toNatClampNeg) B dX13_best_31 h5 h6 rfl ?_
  refine k_icmp_gt (tgt := 77) B dX13_best_32 (by decide) (fun c => ?_) (fun c => ?_)
  · refine k_sub [0, 1, 2, 3] rfl ?_
    exact kt c
  · exact kf c
theorem bX13_best_35 (B : Bd p s m args meth c cX13_best 6 (wsOf yX13_best cX13_best 6 (some .int)) RX13 w (some .int) "best") {v0 : Nat} {v1 : Int32} {v2 : Int32} {v3 : Int32} {v4 : Int32} {post : Int32 → St → Prop} {Q : State → Prop} (hc : ConI l yX13_more (wsOf yX13_more cX13_more 6 (some .int)) rX13_more w S [.ref v0, .int v1, .int v3, .int v4] post) (h1 : kd S v0 = 15) (kk : ∀ (r : Int32) (S' : St), post r S' → K p l e rX13_best s m args below meth c 6 w 0 0 Q S' 43 [(0, .ref v0), (1, .int v1), (2, .int v2), (3, .int v3), (4, .int v4)] [.int r]) : K p l e rX13_best s m args below meth c 6 w 0 0 Q S 35 [(0, .ref v0), (1, .int v1), (2, .int v2), (3, .int v3), (4, .int v4)] [] := by
  refine k_aload_n B 0 rfl rfl dX13_best_35 ?_
  refine k_iload_n B 1 rfl rfl dX13_best_36 ?_
  refine k_iload_n B 3 rfl rfl dX13_best_37 ?_
  refine k_iload B 4 rfl dX13_best_38 ?_
  refine callV_I (st := []) B [.int v1, .int v3, .int v4] (hc) (cwV 3 B.1.2.2.2.2 (gV qlRX13_224 qiX13_more qeX13_more qzRX13 qcX13_more) rfl rfl rfl (by decide +kernel) ⟨Nat.le_of_ble_eq_true rfl, Nat.le_of_ble_eq_true rfl⟩) rfl rfl (by decide) h1 (Nat.le_of_ble_eq_true rfl) rfl dX13_best_40 ⟨Nat.le_of_ble_eq_true rfl, Nat.le_of_ble_eq_true rfl⟩ (fun r S' hp => ?_)
  exact kk r S' hp
theorem bX13_best_43 (B : Bd p s m args meth c cX13_best 6 (wsOf yX13_best cX13_best 6 (some .int)) RX13 w (some .int) "best") {v0 : Nat} {v1 : Int32} {v2 : Int32} {v3 : Int32} {v4 : Int32} {t0 : Int32} {Q : State → Prop} (h1 : kd S v0 = 15) (kt : t0 < (gI S 931 v0) → K p l e rX13_best s m args below meth c 6 w 0 0 Q S 57 [(0, .ref v0), (1, .int v1), (3, .int v3), (4, .int v4), (5, .int t0)] []) (kf : ¬ t0 < (gI S 931 v0) → K p l e rX13_best s m args below meth c 6 w 0 0 Q S 54 [(0, .ref v0), (1, .int v1), (2, .int v2), (3, .int v3), (4, .int v4)] []) : K p l e rX13_best s m args below meth c 6 w 0 0 Q S 43 [(0, .ref v0), (1, .int v1), (2, .int v2), (3, .int v3), (4, .int v4)] [.int t0] := by
  refine k_istore (lst' := [(5, .int t0), (0, .ref v0), (1, .int v1), (2, .int v2), (3, .int v3), (4, .int v4)]) B (by decide) rfl dX13_best_43 ?_
  refine k_iload B 0 rfl dX13_best_45 ?_
  refine k_aload_n B 1 rfl rfl dX13_best_47 ?_
  refine k_getI (f := 931) (v := gI S 931 v0) B 14 35 rfl (by decide) rfl (by decide) rfl rfl (fun w h => in_of (uw_14 w h)) (in_of qfRX13_237) dX13_best_48 h1 rfl ?_
  refine k_icmp_lt (tgt := 57) B dX13_best_51 (by decide) (fun c => ?_) (fun c => ?_)
  · refine k_sub [1, 2, 4, 5, 0] rfl ?_
    exact kt c
  · refine k_sub [1, 2, 3, 4, 5] rfl ?_
    exact kf c
theorem bX13_best_54 (B : Bd p s m args meth c cX13_best 6 (wsOf yX13_best cX13_best 6 (some .int)) RX13 w (some .int) "best") {v0 : Nat} {v1 : Int32} {v2 : Int32} {v3 : Int32} {v4 : Int32} {Q : State → Prop}  (kk : K p l e rX13_best s m args below meth c 6 w 0 0 Q S 71 [(0, .ref v0), (1, .int v1), (2, .int v2), (3, .int v3), (4, .int v4)] []) : K p l e rX13_best s m args below meth c 6 w 0 0 Q S 54 [(0, .ref v0), (1, .int v1), (2, .int v2), (3, .int v3), (4, .int v4)] [] := by
  refine k_goto (tgt := 71) B dX13_best_54 (by decide) ?_
  exact kk
theorem bX13_best_57 (B : Bd p s m args meth c cX13_best 6 (wsOf yX13_best cX13_best 6 (some .int)) RX13 w (some .int) "best") {v0 : Nat} {v1 : Int32} {v3 : Int32} {v4 : Int32} {v5 : Int32} {Q : State → Prop} (h1 : kd S v0 = 15) (kk : K p l e rX13_best s m args below meth c 6 w 0 0 Q (sI S 931 v0 v5) 71 [(0, .ref v0), (1, .int v1), (2, .int ((16 * v3) + v4)), (3, .int v3), (4, .int v4)] []) : K p l e rX13_best s m args below meth c 6 w 0 0 Q S 57 [(0, .ref v0), (1, .int v1), (3, .int v3), (4, .int v4), (5, .int v5)] [] := by
  refine k_aload_n B 0 rfl rfl dX13_best_57 ?_
  refine k_iload B 4 rfl dX13_best_58 ?_
  refine k_putI (f := 931) B 14 35 rfl (by decide) rfl (by decide) rfl rfl (fun w h => in_of (uw_14 w h)) (in_of qfRX13_237) tyX13 tyX13_ok nmX13 rfl (tyX13_ok 35 (by decide)) dX13_best_60 h1 ?_
  refine k_bipush (v := 16) B (by decide) dX13_best_63 ?_
  refine k_iload_n B 2 rfl rfl dX13_best_65 ?_
  refine k_imul B dX13_best_66 ?_
  refine k_iload B 3 rfl dX13_best_67 ?_
  refine k_iadd B dX13_best_69 ?_
  refine k_istore_n (lst' := [(2, .int ((16 * v3) + v4)), (0, .ref v0), (1, .int v1), (3, .int v3), (4, .int v4), (5, .int v5)]) B rfl (by decide) rfl dX13_best_70 ?_
  refine k_sub [1, 2, 0, 3, 4] rfl ?_
  exact kk
theorem bX13_best_71 (B : Bd p s m args meth c cX13_best 6 (wsOf yX13_best cX13_best 6 (some .int)) RX13 w (some .int) "best") {v0 : Nat} {v1 : Int32} {v2 : Int32} {v3 : Int32} {v4 : Int32} {Q : State → Prop}  (kk : K p l e rX13_best s m args below meth c 6 w 0 0 Q S 21 [(0, .ref v0), (1, .int v1), (2, .int v2), (3, .int v3), (4, .int (v4 + 1))] []) : K p l e rX13_best s m args below meth c 6 w 0 0 Q S 71 [(0, .ref v0), (1, .int v1), (2, .int v2), (3, .int v3), (4, .int v4)] [] := by
  refine k_iinc (v := v4 + 1) (lst' := [(4, .int (v4 + 1)), (0, .ref v0), (1, .int v1), (2, .int v2), (3, .int v3)]) B 4 rfl rfl (by decide) rfl dX13_best_71 ?_
  refine k_goto (tgt := 21) B dX13_best_74 (by decide) ?_
  refine k_sub [1, 2, 3, 4, 0] rfl ?_
  exact kk
theorem bX13_best_77 (B : Bd p s m args meth c cX13_best 6 (wsOf yX13_best cX13_best 6 (some .int)) RX13 w (some .int) "best") {v0 : Nat} {v1 : Int32} {v2 : Int32} {v3 : Int32} {Q : State → Prop}  (kk : K p l e rX13_best s m args below meth c 6 w 0 0 Q S 10 [(0, .ref v0), (1, .int v1), (2, .int v2), (3, .int (v3 + 1))] []) : K p l e rX13_best s m args below meth c 6 w 0 0 Q S 77 [(0, .ref v0), (1, .int v1), (2, .int v2), (3, .int v3)] [] := by
  refine k_iinc (v := v3 + 1) (lst' := [(3, .int (v3 + 1)), (0, .ref v0), (1, .int v1), (2, .int v2)]) B 3 rfl rfl (by decide) rfl dX13_best_77 ?_
  refine k_goto (tgt := 10) B dX13_best_80 (by decide) ?_
  refine k_sub [1, 2, 3, 0] rfl ?_
  exact kk
theorem bX13_best_83 (B : Bd p s m args meth c cX13_best 6 (wsOf yX13_best cX13_best 6 (some .int)) RX13 w (some .int) "best") {v2 : Int32} {post : Int32 → St → Prop}  (hq : post v2 S) : K p l e rX13_best s m args below meth c 6 w 0 0 (MQ below (va_Qi post (fun S' t => Hd w S' t.heap) (wA w)) args s 0 0 (wA w)) S 83 [(2, .int v2)] [] := by
  refine k_iload_n B 0 rfl rfl dX13_best_83 ?_
  exact ret_I B rfl dX13_best_84 (hq)
theorem bX13_cheapest_0 (B : Bd p s m args meth c cX13_cheapest 2 (wsOf yX13_cheapest cX13_cheapest 2 (some .int)) RX13 w (some .int) "cheapest") {v0 : Nat} {v1 : Int32} {post : Int32 → St → Prop} {Q : State → Prop} (h1 : kd S v0 = 15) (hc : ConI l yX13_isParcel (wsOf yX13_isParcel cX13_isParcel 2 (some .boolean)) rX13_isParcel w (sI S 896 v0 0) [.ref v0, .int v1] post) (kk : ∀ (r : Int32) (S' : St), post r S' → K p l e rX13_cheapest s m args below meth c 2 w 0 0 Q S' 10 [(0, .ref v0), (1, .int v1)] [.int r]) : K p l e rX13_cheapest s m args below meth c 2 w 0 0 Q S 0 [(0, .ref v0), (1, .int v1)] [] := by
  refine k_aload_n B 0 rfl rfl dX13_cheapest_0 ?_
  refine k_iconst (v := 0) B (by decide) dX13_cheapest_1 ?_
  refine k_putI (f := 896) B 14 0 rfl (by decide) rfl (by decide) rfl rfl (fun w h => in_of (uw_14 w h)) (in_of qfRX13_95) tyX13 tyX13_ok nmX13 rfl (tyX13_ok 0 (by decide)) dX13_cheapest_2 h1 ?_
  refine k_aload_n B 0 rfl rfl dX13_cheapest_5 ?_
  refine k_iload_n B 1 rfl rfl dX13_cheapest_6 ?_
  refine callV_I (st := []) B [.int v1] (hc) (cwV 1 B.1.2.2.2.2 (gV qlRX13_163 qiX13_isParcel qeX13_isParcel qzRX13 qcX13_isParcel) rfl rfl rfl (by decide +kernel) ⟨Nat.le_of_ble_eq_true rfl, Nat.le_of_ble_eq_true rfl⟩) rfl rfl (by decide) h1 (Nat.le_of_ble_eq_true rfl) rfl dX13_cheapest_7 ⟨Nat.le_of_ble_eq_true rfl, Nat.le_of_ble_eq_true rfl⟩ (fun r S' hp => ?_)
  exact kk r S' hp
theorem bX13_cheapest_10 (B : Bd p s m args meth c cX13_cheapest 2 (wsOf yX13_cheapest cX13_cheapest 2 (some .int)) RX13 w (some .int) "cheapest") {v0 : Nat} {v1 : Int32} {t0 : Int32} {Q : State → Prop}  (kt : ¬ t0 = 0 → K p l e rX13_cheapest s m args below meth c 2 w 0 0 Q S 19 [(0, .ref v0), (1, .int v1)] []) (kf : t0 = 0 → K p l e rX13_cheapest s m args below meth c 2 w 0 0 Q S 13 [(0, .ref v0)] []) : K p l e rX13_cheapest s m args below meth c 2 w 0 0 Q S 10 [(0, .ref v0), (1, .int v1)] [.int t0] := by
  refine k_if_ne (tgt := 19) B dX13_cheapest_10 (by decide) (fun c => ?_) (fun c => ?_)
  · exact kt c
  · refine k_sub [0] rfl ?_
    exact kf c
theorem bX13_cheapest_13 (B : Bd p s m args meth c cX13_cheapest 2 (wsOf yX13_cheapest cX13_cheapest 2 (some .int)) RX13 w (some .int) "cheapest") {v0 : Nat} {post : Int32 → St → Prop} {Q : State → Prop} (hc : ConI l yX13_no (wsOf yX13_no cX13_no 2 (some .int)) rX13_no w S [.ref v0, .int 1] post) (h1 : kd S v0 = 15) (kk : ∀ (r : Int32) (S' : St), post r S' → K p l e rX13_cheapest s m args below meth c 2 w 0 0 Q S' 18 [] [.int r]) : K p l e rX13_cheapest s m args below meth c 2 w 0 0 Q S 13 [(0, .ref v0)] [] := by
  refine k_aload_n B 0 rfl rfl dX13_cheapest_13 ?_
  refine k_iconst (v := 1) B (by decide) dX13_cheapest_14 ?_
  refine callV_I (st := []) B [.int 1] (hc) (cwV 1 B.1.2.2.2.2 (gV qlRX13_120 qiX13_no qeX13_no qzRX13 qcX13_no) rfl rfl rfl (by decide +kernel) ⟨Nat.le_of_ble_eq_true rfl, Nat.le_of_ble_eq_true rfl⟩) rfl rfl (by decide) h1 (Nat.le_of_ble_eq_true rfl) rfl dX13_cheapest_15 ⟨Nat.le_of_ble_eq_true rfl, Nat.le_of_ble_eq_true rfl⟩ (fun r S' hp => ?_)
  refine k_sub [] rfl ?_
  exact kk r S' hp
theorem bX13_cheapest_18 (B : Bd p s m args meth c cX13_cheapest 2 (wsOf yX13_cheapest cX13_cheapest 2 (some .int)) RX13 w (some .int) "cheapest") {t0 : Int32} {post : Int32 → St → Prop}  (hq : post t0 S) : K p l e rX13_cheapest s m args below meth c 2 w 0 0 (MQ below (va_Qi post (fun S' t => Hd w S' t.heap) (wA w)) args s 0 0 (wA w)) S 18 [] [.int t0] := by
  exact ret_I B rfl dX13_cheapest_18 (hq)
theorem bX13_cheapest_19 (B : Bd p s m args meth c cX13_cheapest 2 (wsOf yX13_cheapest cX13_cheapest 2 (some .int)) RX13 w (some .int) "cheapest") {v0 : Nat} {v1 : Int32} {post : Int32 → St → Prop} {Q : State → Prop} (hc : ConI l yX13_isFree (wsOf yX13_isFree cX13_isFree 2 (some .boolean)) rX13_isFree w S [.ref v0, .int v1] post) (h1 : kd S v0 = 15) (kk : ∀ (r : Int32) (S' : St), post r S' → K p l e rX13_cheapest s m args below meth c 2 w 0 0 Q S' 24 [(0, .ref v0), (1, .int v1)] [.int r]) : K p l e rX13_cheapest s m args below meth c 2 w 0 0 Q S 19 [(0, .ref v0), (1, .int v1)] [] := by
  refine k_aload_n B 0 rfl rfl dX13_cheapest_19 ?_
  refine k_iload_n B 1 rfl rfl dX13_cheapest_20 ?_
  refine callV_I (st := []) B [.int v1] (hc) (cwV 1 B.1.2.2.2.2 (gV qlRX13_221 qiX13_isFree qeX13_isFree qzRX13 qcX13_isFree) rfl rfl rfl (by decide +kernel) ⟨Nat.le_of_ble_eq_true rfl, Nat.le_of_ble_eq_true rfl⟩) rfl rfl (by decide) h1 (Nat.le_of_ble_eq_true rfl) rfl dX13_cheapest_21 ⟨Nat.le_of_ble_eq_true rfl, Nat.le_of_ble_eq_true rfl⟩ (fun r S' hp => ?_)
  exact kk r S' hp
theorem bX13_cheapest_24 (B : Bd p s m args meth c cX13_cheapest 2 (wsOf yX13_cheapest cX13_cheapest 2 (some .int)) RX13 w (some .int) "cheapest") {v0 : Nat} {v1 : Int32} {t0 : Int32} {Q : State → Prop}  (kt : t0 = 0 → K p l e rX13_cheapest s m args below meth c 2 w 0 0 Q S 35 [] []) (kf : ¬ t0 = 0 → K p l e rX13_cheapest s m args below meth c 2 w 0 0 Q S 27 [(0, .ref v0), (1, .int v1)] []) : K p l e rX13_cheapest s m args below meth c 2 w 0 0 Q S 24 [(0, .ref v0), (1, .int v1)] [.int t0] := by
  refine k_if_eq (tgt := 35) B dX13_cheapest_24 (by decide) (fun c => ?_) (fun c => ?_)
  · refine k_sub [] rfl ?_
    exact kt c
  · exact kf c
theorem bX13_cheapest_27 (B : Bd p s m args meth c cX13_cheapest 2 (wsOf yX13_cheapest cX13_cheapest 2 (some .int)) RX13 w (some .int) "cheapest") {v0 : Nat} {v1 : Int32} {post : Int32 → St → Prop} {Q : State → Prop} (hc : ConI l yX13_best (wsOf yX13_best cX13_best 6 (some .int)) rX13_best w S [.ref v0, .int v1] post) (h1 : kd S v0 = 15) (kk : ∀ (r : Int32) (S' : St), post r S' → K p l e rX13_cheapest s m args below meth c 2 w 0 0 Q S' 32 [] [.int r]) : K p l e rX13_cheapest s m args below meth c 2 w 0 0 Q S 27 [(0, .ref v0), (1, .int v1)] [] := by
  refine k_aload_n B 0 rfl rfl dX13_cheapest_27 ?_
  refine k_iload_n B 1 rfl rfl dX13_cheapest_28 ?_
  refine callV_I (st := []) B [.int v1] (hc) (cwV 1 B.1.2.2.2.2 (gV qlRX13_240 qiX13_best qeX13_best qzRX13 qcX13_best) rfl rfl rfl (by decide +kernel) ⟨Nat.le_of_ble_eq_true rfl, Nat.le_of_ble_eq_true rfl⟩) rfl rfl (by decide) h1 (Nat.le_of_ble_eq_true rfl) rfl dX13_cheapest_29 ⟨Nat.le_of_ble_eq_true rfl, Nat.le_of_ble_eq_true rfl⟩ (fun r S' hp => ?_)
  refine k_sub [] rfl ?_
  exact kk r S' hp
theorem bX13_cheapest_32 (B : Bd p s m args meth c cX13_cheapest 2 (wsOf yX13_cheapest cX13_cheapest 2 (some .int)) RX13 w (some .int) "cheapest") {t0 : Int32} {Q : State → Prop}  (kk : K p l e rX13_cheapest s m args below meth c 2 w 0 0 Q S 36 [] [.int t0]) : K p l e rX13_cheapest s m args below meth c 2 w 0 0 Q S 32 [] [.int t0] := by
  refine k_goto (tgt := 36) B dX13_cheapest_32 (by decide) ?_
  exact kk
theorem bX13_cheapest_35 (B : Bd p s m args meth c cX13_cheapest 2 (wsOf yX13_cheapest cX13_cheapest 2 (some .int)) RX13 w (some .int) "cheapest") {Q : State → Prop}  (kk : K p l e rX13_cheapest s m args below meth c 2 w 0 0 Q S 36 [] [.int (-1)]) : K p l e rX13_cheapest s m args below meth c 2 w 0 0 Q S 35 [] [] := by
  refine k_iconst (v := (-1)) B (by decide) dX13_cheapest_35 ?_
  exact kk
theorem bX13_cheapest_36 (B : Bd p s m args meth c cX13_cheapest 2 (wsOf yX13_cheapest cX13_cheapest 2 (some .int)) RX13 w (some .int) "cheapest") {t0 : Int32} {post : Int32 → St → Prop}  (hq : post t0 S) : K p l e rX13_cheapest s m args below meth c 2 w 0 0 (MQ below (va_Qi post (fun S' t => Hd w S' t.heap) (wA w)) args s 0 0 (wA w)) S 36 [] [.int t0] := by
  exact ret_I B rfl dX13_cheapest_36 (hq)
theorem bX13_plan_0 (B : Bd p s m args meth c cX13_plan 7 (wsOf yX13_plan cX13_plan 7 (some .int)) RX13 w (some .int) "plan") {v0 : Nat} {Q : State → Prop} (h1 : kd S v0 = 15) (kk : K p l e rX13_plan s m args below meth c 7 w 0 0 Q (sI S 896 v0 0) 7 [(0, .ref v0), (1, .int 0)] []) : K p l e rX13_plan s m args below meth c 7 w 0 0 Q S 0 [(0, .ref v0)] [] := by
  refine k_aload_n B 0 rfl rfl dX13_plan_0 ?_
  refine k_iconst (v := 0) B (by decide) dX13_plan_1 ?_
  refine k_putI (f := 896) B 14 0 rfl (by decide) rfl (by decide) rfl rfl (fun w h => in_of (uw_14 w h)) (in_of qfRX13_95) tyX13 tyX13_ok nmX13 rfl (tyX13_ok 0 (by decide)) dX13_plan_2 h1 ?_
  refine k_iconst (v := 0) B (by decide) dX13_plan_5 ?_
  refine k_istore_n (lst' := [(1, .int 0), (0, .ref v0)]) B rfl (by decide) rfl dX13_plan_6 ?_
  refine k_sub [1, 0] rfl ?_
  exact kk
theorem bX13_plan_7 (B : Bd p s m args meth c cX13_plan 7 (wsOf yX13_plan cX13_plan 7 (some .int)) RX13 w (some .int) "plan") {v0 : Nat} {v1 : Int32} {Q : State → Prop}  (kk : K p l e rX13_plan s m args below meth c 7 w 0 0 Q S 18 [(0, .ref v0), (1, .int v1), (2, .int (-1)), (3, .int (-1)), (4, .int 1000000), (5, .int 0)] []) : K p l e rX13_plan s m args below meth c 7 w 0 0 Q S 7 [(0, .ref v0), (1, .int v1)] [] := by
  refine k_iconst (v := (-1)) B (by decide) dX13_plan_7 ?_
  refine k_istore_n (lst' := [(2, .int (-1)), (0, .ref v0), (1, .int v1)]) B rfl (by decide) rfl dX13_plan_8 ?_
  refine k_iconst (v := (-1)) B (by decide) dX13_plan_9 ?_
  refine k_istore_n (lst' := [(3, .int (-1)), (2, .int (-1)), (0, .ref v0), (1, .int v1)]) B rfl (by decide) rfl dX13_plan_10 ?_
  refine k_ldc (v := 1000000) B (in_of qtRX13_217) dX13_plan_11 ?_
  refine k_istore (lst' := [(4, .int 1000000), (3, .int (-1)), (2, .int (-1)), (0, .ref v0), (1, .int v1)]) B (by decide) rfl dX13_plan_13 ?_
  refine k_iconst (v := 0) B (by decide) dX13_plan_15 ?_
  refine k_istore (lst' := [(5, .int 0), (4, .int 1000000), (3, .int (-1)), (2, .int (-1)), (0, .ref v0), (1, .int v1)]) B (by decide) rfl dX13_plan_16 ?_
  refine k_sub [4, 5, 3, 2, 1, 0] rfl ?_
  exact kk
theorem bX13_plan_18 (B : Bd p s m args meth c cX13_plan 7 (wsOf yX13_plan cX13_plan 7 (some .int)) RX13 w (some .int) "plan") {v0 : Nat} {v1 : Int32} {v2 : Int32} {v3 : Int32} {v4 : Int32} {v5 : Int32} {Q : State → Prop} (h1 : kd S v0 = 15) (kt : (gI S 913 v0) ≤ v5 → K p l e rX13_plan s m args below meth c 7 w 0 0 Q S 83 [(0, .ref v0), (1, .int v1), (2, .int v2), (3, .int v3)] []) (kf : ¬ (gI S 913 v0) ≤ v5 → K p l e rX13_plan s m args below meth c 7 w 0 0 Q S 27 [(0, .ref v0), (1, .int v1), (2, .int v2), (3, .int v3), (4, .int v4), (5, .int v5)] []) : K p l e rX13_plan s m args below meth c 7 w 0 0 Q S 18 [(0, .ref v0), (1, .int v1), (2, .int v2), (3, .int v3), (4, .int v4), (5, .int v5)] [] := by
  refine k_iload B 5 rfl dX13_plan_18 ?_
  refine k_aload_n B 0 rfl rfl dX13_plan_20 ?_
  refine k_getI (f := 913) (v := gI S 913 v0) B 14 17 rfl (by decide) rfl (by decide) rfl rfl (fun w h => in_of (uw_14 w h)) (in_of qfRX13_117) dX13_plan_21 h1 rfl ?_
  refine k_icmp_ge (tgt := 83) B dX13_plan_24 (by decide) (fun c => ?_) (fun c => ?_)
  · refine k_sub [0, 1, 2, 3] rfl ?_
    exact kt c
  · exact kf c
theorem bX13_plan_27 (B : Bd p s m args meth c cX13_plan 7 (wsOf yX13_plan cX13_plan 7 (some .int)) RX13 w (some .int) "plan") {v0 : Nat} {v1 : Int32} {v2 : Int32} {v3 : Int32} {v4 : Int32} {v5 : Int32} {post : Int32 → St → Prop} {Q : State → Prop} (hc : ConI l yX13_isFree (wsOf yX13_isFree cX13_isFree 2 (some .boolean)) rX13_isFree w S [.ref v0, .int v5] post) (h1 : kd S v0 = 15) (kk : ∀ (r : Int32) (S' : St), post r S' → K p l e rX13_plan s m args below meth c 7 w 0 0 Q S' 33 [(0, .ref v0), (1, .int v1), (2, .int v2), (3, .int v3), (4, .int v4), (5, .int v5)] [.int r]) : K p l e rX13_plan s m args below meth c 7 w 0 0 Q S 27 [(0, .ref v0), (1, .int v1), (2, .int v2), (3, .int v3), (4, .int v4), (5, .int v5)] [] := by
  refine k_aload_n B 0 rfl rfl dX13_plan_27 ?_
  refine k_iload B 5 rfl dX13_plan_28 ?_
  refine callV_I (st := []) B [.int v5] (hc) (cwV 1 B.1.2.2.2.2 (gV qlRX13_221 qiX13_isFree qeX13_isFree qzRX13 qcX13_isFree) rfl rfl rfl (by decide +kernel) ⟨Nat.le_of_ble_eq_true rfl, Nat.le_of_ble_eq_true rfl⟩) rfl rfl (by decide) h1 (Nat.le_of_ble_eq_true rfl) rfl dX13_plan_30 ⟨Nat.le_of_ble_eq_true rfl, Nat.le_of_ble_eq_true rfl⟩ (fun r S' hp => ?_)
  exact kk r S' hp
theorem bX13_plan_33 (B : Bd p s m args meth c cX13_plan 7 (wsOf yX13_plan cX13_plan 7 (some .int)) RX13 w (some .int) "plan") {v0 : Nat} {v1 : Int32} {v2 : Int32} {v3 : Int32} {v4 : Int32} {v5 : Int32} {t0 : Int32} {Q : State → Prop}  (kt : ¬ t0 = 0 → K p l e rX13_plan s m args below meth c 7 w 0 0 Q S 39 [(0, .ref v0), (1, .int v1), (2, .int v2), (3, .int v3), (4, .int v4), (5, .int v5)] []) (kf : t0 = 0 → K p l e rX13_plan s m args below meth c 7 w 0 0 Q S 36 [(0, .ref v0), (1, .int v1), (2, .int v2), (3, .int v3), (4, .int v4), (5, .int v5)] []) : K p l e rX13_plan s m args below meth c 7 w 0 0 Q S 33 [(0, .ref v0), (1, .int v1), (2, .int v2), (3, .int v3), (4, .int v4), (5, .int v5)] [.int t0] := by
  refine k_if_ne (tgt := 39) B dX13_plan_33 (by decide) (fun c => ?_) (fun c => ?_)
  · exact kt c
  · exact kf c
theorem bX13_plan_36 (B : Bd p s m args meth c cX13_plan 7 (wsOf yX13_plan cX13_plan 7 (some .int)) RX13 w (some .int) "plan") {v0 : Nat} {v1 : Int32} {v2 : Int32} {v3 : Int32} {v4 : Int32} {v5 : Int32} {Q : State → Prop}  (kk : K p l e rX13_plan s m args below meth c 7 w 0 0 Q S 77 [(0, .ref v0), (1, .int v1), (2, .int v2), (3, .int v3), (4, .int v4), (5, .int v5)] []) : K p l e rX13_plan s m args below meth c 7 w 0 0 Q S 36 [(0, .ref v0), (1, .int v1), (2, .int v2), (3, .int v3), (4, .int v4), (5, .int v5)] [] := by
  refine k_goto (tgt := 77) B dX13_plan_36 (by decide) ?_
  exact kk
theorem bX13_plan_39 (B : Bd p s m args meth c cX13_plan 7 (wsOf yX13_plan cX13_plan 7 (some .int)) RX13 w (some .int) "plan") {v0 : Nat} {v1 : Int32} {v2 : Int32} {v3 : Int32} {v4 : Int32} {v5 : Int32} {post : Int32 → St → Prop} {Q : State → Prop} (hc : ConI l yX13_best (wsOf yX13_best cX13_best 6 (some .int)) rX13_best w S [.ref v0, .int v5] post) (h1 : kd S v0 = 15) (kk : ∀ (r : Int32) (S' : St), post r S' → K p l e rX13_plan s m args below meth c 7 w 0 0 Q S' 45 [(0, .ref v0), (1, .int v1), (2, .int v2), (3, .int v3), (4, .int v4), (5, .int v5)] [.int r]) : K p l e rX13_plan s m args below meth c 7 w 0 0 Q S 39 [(0, .ref v0), (1, .int v1), (2, .int v2), (3, .int v3), (4, .int v4), (5, .int v5)] [] := by
  refine k_aload_n B 0 rfl rfl dX13_plan_39 ?_
  refine k_iload B 5 rfl dX13_plan_40 ?_
  refine callV_I (st := []) B [.int v5] (hc) (cwV 1 B.1.2.2.2.2 (gV qlRX13_240 qiX13_best qeX13_best qzRX13 qcX13_best) rfl rfl rfl (by decide +kernel) ⟨Nat.le_of_ble_eq_true rfl, Nat.le_of_ble_eq_true rfl⟩) rfl rfl (by decide) h1 (Nat.le_of_ble_eq_true rfl) rfl dX13_plan_42 ⟨Nat.le_of_ble_eq_true rfl, Nat.le_of_ble_eq_true rfl⟩ (fun r S' hp => ?_)
  exact kk r S' hp
theorem bX13_plan_45 (B : Bd p s m args meth c cX13_plan 7 (wsOf yX13_plan cX13_plan 7 (some .int)) RX13 w (some .int) "plan") {v0 : Nat} {v1 : Int32} {v2 : Int32} {v3 : Int32} {v4 : Int32} {v5 : Int32} {t0 : Int32} {Q : State → Prop}  (kt : t0 = (-1) → K p l e rX13_plan s m args below meth c 7 w 0 0 Q S 77 [(0, .ref v0), (1, .int v1), (2, .int v2), (3, .int v3), (4, .int v4), (5, .int v5)] []) (kf : ¬ t0 = (-1) → K p l e rX13_plan s m args below meth c 7 w 0 0 Q S 53 [(0, .ref v0), (1, .int v1), (2, .int v2), (3, .int v3), (4, .int v4), (5, .int v5), (6, .int t0)] []) : K p l e rX13_plan s m args below meth c 7 w 0 0 Q S 45 [(0, .ref v0), (1, .int v1), (2, .int v2), (3, .int v3), (4, .int v4), (5, .int v5)] [.int t0] := by
  refine k_istore (lst' := [(6, .int t0), (0, .ref v0), (1, .int v1), (2, .int v2), (3, .int v3), (4, .int v4), (5, .int v5)]) B (by decide) rfl dX13_plan_45 ?_
  refine k_iload B 0 rfl dX13_plan_47 ?_
  refine k_iconst (v := (-1)) B (by decide) dX13_plan_49 ?_
  refine k_icmp_eq (tgt := 77) B dX13_plan_50 (by decide) (fun c => ?_) (fun c => ?_)
  · refine k_sub [1, 2, 3, 4, 5, 6] rfl ?_
    exact kt c
  · refine k_sub [1, 2, 3, 4, 5, 6, 0] rfl ?_
    exact kf c
theorem bX13_plan_53 (B : Bd p s m args meth c cX13_plan 7 (wsOf yX13_plan cX13_plan 7 (some .int)) RX13 w (some .int) "plan") {v0 : Nat} {v1 : Int32} {v2 : Int32} {v3 : Int32} {v4 : Int32} {v5 : Int32} {v6 : Int32} {Q : State → Prop} (h1 : kd S v0 = 15) (kt : (gI S 931 v0) < v4 → K p l e rX13_plan s m args below meth c 7 w 0 0 Q S 65 [(0, .ref v0), (1, .int v1), (5, .int v5), (6, .int v6)] []) (kf : ¬ (gI S 931 v0) < v4 → K p l e rX13_plan s m args below meth c 7 w 0 0 Q S 62 [(0, .ref v0), (1, .int v1), (2, .int v2), (3, .int v3), (4, .int v4), (5, .int v5)] []) : K p l e rX13_plan s m args below meth c 7 w 0 0 Q S 53 [(0, .ref v0), (1, .int v1), (2, .int v2), (3, .int v3), (4, .int v4), (5, .int v5), (6, .int v6)] [] := by
  refine k_aload_n B 0 rfl rfl dX13_plan_53 ?_
  refine k_getI (f := 931) (v := gI S 931 v0) B 14 35 rfl (by decide) rfl (by decide) rfl rfl (fun w h => in_of (uw_14 w h)) (in_of qfRX13_237) dX13_plan_54 h1 rfl ?_
  refine k_iload B 4 rfl dX13_plan_57 ?_
  refine k_icmp_lt (tgt := 65) B dX13_plan_59 (by decide) (fun c => ?_) (fun c => ?_)
  · refine k_sub [0, 1, 5, 6] rfl ?_
    exact kt c
  · refine k_sub [0, 1, 2, 3, 4, 5] rfl ?_
    exact kf c
theorem bX13_plan_62 (B : Bd p s m args meth c cX13_plan 7 (wsOf yX13_plan cX13_plan 7 (some .int)) RX13 w (some .int) "plan") {v0 : Nat} {v1 : Int32} {v2 : Int32} {v3 : Int32} {v4 : Int32} {v5 : Int32} {Q : State → Prop}  (kk : K p l e rX13_plan s m args below meth c 7 w 0 0 Q S 77 [(0, .ref v0), (1, .int v1), (2, .int v2), (3, .int v3), (4, .int v4), (5, .int v5)] []) : K p l e rX13_plan s m args below meth c 7 w 0 0 Q S 62 [(0, .ref v0), (1, .int v1), (2, .int v2), (3, .int v3), (4, .int v4), (5, .int v5)] [] := by
  refine k_goto (tgt := 77) B dX13_plan_62 (by decide) ?_
  exact kk
theorem bX13_plan_65 (B : Bd p s m args meth c cX13_plan 7 (wsOf yX13_plan cX13_plan 7 (some .int)) RX13 w (some .int) "plan") {v0 : Nat} {v1 : Int32} {v5 : Int32} {v6 : Int32} {Q : State → Prop} (h1 : kd S v0 = 15) (kk : K p l e rX13_plan s m args below meth c 7 w 0 0 Q S 77 [(0, .ref v0), (1, .int v1), (2, .int v5), (3, .int v6), (4, .int (gI S 931 v0)), (5, .int v5)] []) : K p l e rX13_plan s m args below meth c 7 w 0 0 Q S 65 [(0, .ref v0), (1, .int v1), (5, .int v5), (6, .int v6)] [] := by
  refine k_aload_n B 0 rfl rfl dX13_plan_65 ?_
  refine k_getI (f := 931) (v := gI S 931 v0) B 14 35 rfl (by decide) rfl (by decide) rfl rfl (fun w h => in_of (uw_14 w h)) (in_of qfRX13_237) dX13_plan_66 h1 rfl ?_
  refine k_istore (lst' := [(4, .int (gI S 931 v0)), (0, .ref v0), (1, .int v1), (5, .int v5), (6, .int v6)]) B (by decide) rfl dX13_plan_69 ?_
  refine k_iload B 3 rfl dX13_plan_71 ?_
  refine k_istore_n (lst' := [(2, .int v5), (4, .int (gI S 931 v0)), (0, .ref v0), (1, .int v1), (5, .int v5), (6, .int v6)]) B rfl (by decide) rfl dX13_plan_73 ?_
  refine k_iload B 5 rfl dX13_plan_74 ?_
  refine k_istore_n (lst' := [(3, .int v6), (2, .int v5), (4, .int (gI S 931 v0)), (0, .ref v0), (1, .int v1), (5, .int v5), (6, .int v6)]) B rfl (by decide) rfl dX13_plan_76 ?_
  refine k_sub [3, 4, 1, 0, 2, 5] rfl ?_
  exact kk
theorem bX13_plan_77 (B : Bd p s m args meth c cX13_plan 7 (wsOf yX13_plan cX13_plan 7 (some .int)) RX13 w (some .int) "plan") {v0 : Nat} {v1 : Int32} {v2 : Int32} {v3 : Int32} {v4 : Int32} {v5 : Int32} {Q : State → Prop}  (kk : K p l e rX13_plan s m args below meth c 7 w 0 0 Q S 18 [(0, .ref v0), (1, .int v1), (2, .int v2), (3, .int v3), (4, .int v4), (5, .int (v5 + 1))] []) : K p l e rX13_plan s m args below meth c 7 w 0 0 Q S 77 [(0, .ref v0), (1, .int v1), (2, .int v2), (3, .int v3), (4, .int v4), (5, .int v5)] [] := by
  refine k_iinc (v := v5 + 1) (lst' := [(5, .int (v5 + 1)), (0, .ref v0), (1, .int v1), (2, .int v2), (3, .int v3), (4, .int v4)]) B 5 rfl rfl (by decide) rfl dX13_plan_77 ?_
  refine k_goto (tgt := 18) B dX13_plan_80 (by decide) ?_
  refine k_sub [1, 2, 3, 4, 5, 0] rfl ?_
  exact kk
theorem bX13_plan_83 (B : Bd p s m args meth c cX13_plan 7 (wsOf yX13_plan cX13_plan 7 (some .int)) RX13 w (some .int) "plan") {v0 : Nat} {v1 : Int32} {v2 : Int32} {v3 : Int32} {Q : State → Prop}  (kt : ¬ v2 = (-1) → K p l e rX13_plan s m args below meth c 7 w 0 0 Q S 90 [(0, .ref v0), (1, .int v1), (2, .int v2), (3, .int v3)] []) (kf : v2 = (-1) → K p l e rX13_plan s m args below meth c 7 w 0 0 Q S 88 [(1, .int v1)] []) : K p l e rX13_plan s m args below meth c 7 w 0 0 Q S 83 [(0, .ref v0), (1, .int v1), (2, .int v2), (3, .int v3)] [] := by
  refine k_iload_n B 2 rfl rfl dX13_plan_83 ?_
  refine k_iconst (v := (-1)) B (by decide) dX13_plan_84 ?_
  refine k_icmp_ne (tgt := 90) B dX13_plan_85 (by decide) (fun c => ?_) (fun c => ?_)
  · exact kt c
  · refine k_sub [1] rfl ?_
    exact kf c
theorem bX13_plan_88 (B : Bd p s m args meth c cX13_plan 7 (wsOf yX13_plan cX13_plan 7 (some .int)) RX13 w (some .int) "plan") {v1 : Int32} {post : Int32 → St → Prop}  (hq : post v1 S) : K p l e rX13_plan s m args below meth c 7 w 0 0 (MQ below (va_Qi post (fun S' t => Hd w S' t.heap) (wA w)) args s 0 0 (wA w)) S 88 [(1, .int v1)] [] := by
  refine k_iload_n B 0 rfl rfl dX13_plan_88 ?_
  exact ret_I B rfl dX13_plan_89 (hq)
theorem bX13_plan_90 (B : Bd p s m args meth c cX13_plan 7 (wsOf yX13_plan cX13_plan 7 (some .int)) RX13 w (some .int) "plan") {v0 : Nat} {v1 : Int32} {v2 : Int32} {v3 : Int32} {post : Int32 → St → Prop} {Q : State → Prop} (hc : ConI l yX13_more (wsOf yX13_more cX13_more 6 (some .int)) rX13_more w S [.ref v0, .int v2, .int (v3 / 16), .int (v3 - v3 / 16 * 16)] post) (h1 : kd S v0 = 15) (kk : ∀ (r : Int32) (S' : St), post r S' → K p l e rX13_plan s m args below meth c 7 w 0 0 Q S' 103 [(0, .ref v0), (1, .int v1), (3, .int v3)] [.int r]) : K p l e rX13_plan s m args below meth c 7 w 0 0 Q S 90 [(0, .ref v0), (1, .int v1), (2, .int v2), (3, .int v3)] [] := by
  refine k_aload_n B 0 rfl rfl dX13_plan_90 ?_
  refine k_iload_n B 2 rfl rfl dX13_plan_91 ?_
  refine k_iload_n B 3 rfl rfl dX13_plan_92 ?_
  refine k_bipush (v := 16) B (by decide) dX13_plan_93 ?_
  refine k_idiv B (by decide) dX13_plan_95 ?_
  refine k_iload_n B 3 rfl rfl dX13_plan_96 ?_
  refine k_bipush (v := 16) B (by decide) dX13_plan_97 ?_
  refine k_irem B (by decide) dX13_plan_99 ?_
  refine callV_I (st := []) B [.int v2, .int (v3 / 16), .int (v3 - v3 / 16 * 16)] (hc) (cwV 3 B.1.2.2.2.2 (gV qlRX13_224 qiX13_more qeX13_more qzRX13 qcX13_more) rfl rfl rfl (by decide +kernel) ⟨Nat.le_of_ble_eq_true rfl, Nat.le_of_ble_eq_true rfl⟩) rfl rfl (by decide) h1 (Nat.le_of_ble_eq_true rfl) rfl dX13_plan_100 ⟨Nat.le_of_ble_eq_true rfl, Nat.le_of_ble_eq_true rfl⟩ (fun r S' hp => ?_)
  refine k_sub [0, 1, 3] rfl ?_
  exact kk r S' hp
theorem bX13_plan_103 (B : Bd p s m args meth c cX13_plan 7 (wsOf yX13_plan cX13_plan 7 (some .int)) RX13 w (some .int) "plan") {v0 : Nat} {v1 : Int32} {v3 : Int32} {t0 : Int32} {post : St → Prop} {Q : State → Prop} (hc : ConV l yX13_keep (wsOf yX13_keep cX13_keep 2 none) rX13_keep w S [.ref v0, .int (v3 / 16)] post) (h1 : kd S v0 = 15) (kk : ∀ (S' : St), post S' → K p l e rX13_plan s m args below meth c 7 w 0 0 Q S' 112 [(0, .ref v0), (1, .int v1)] []) : K p l e rX13_plan s m args below meth c 7 w 0 0 Q S 103 [(0, .ref v0), (1, .int v1), (3, .int v3)] [.int t0] := by
  refine k_pop B rfl dX13_plan_103 ?_
  refine k_aload_n B 0 rfl rfl dX13_plan_104 ?_
  refine k_iload_n B 2 rfl rfl dX13_plan_105 ?_
  refine k_bipush (v := 16) B (by decide) dX13_plan_106 ?_
  refine k_idiv B (by decide) dX13_plan_108 ?_
  refine callV_V (st := []) B [.int (v3 / 16)] (hc) (cwV 1 B.1.2.2.2.2 (gV qlRX13_228 qiX13_keep qeX13_keep qzRX13 qcX13_keep) rfl rfl rfl (by decide +kernel) ⟨Nat.le_of_ble_eq_true rfl, Nat.le_of_ble_eq_true rfl⟩) rfl rfl (by decide) h1 (Nat.le_of_ble_eq_true rfl) rfl dX13_plan_109 ⟨Nat.le_of_ble_eq_true rfl, Nat.le_of_ble_eq_true rfl⟩ (fun S' hp => ?_)
  refine k_sub [0, 1] rfl ?_
  exact kk S' hp
theorem bX13_plan_112 (B : Bd p s m args meth c cX13_plan 7 (wsOf yX13_plan cX13_plan 7 (some .int)) RX13 w (some .int) "plan") {v0 : Nat} {v1 : Int32} {Q : State → Prop}  (kk : K p l e rX13_plan s m args below meth c 7 w 0 0 Q S 7 [(0, .ref v0), (1, .int (v1 + 1))] []) : K p l e rX13_plan s m args below meth c 7 w 0 0 Q S 112 [(0, .ref v0), (1, .int v1)] [] := by
  refine k_iinc (v := v1 + 1) (lst' := [(1, .int (v1 + 1)), (0, .ref v0)]) B 1 rfl rfl (by decide) rfl dX13_plan_112 ?_
  refine k_goto (tgt := 7) B dX13_plan_115 (by decide) ?_
  refine k_sub [1, 0] rfl ?_
  exact kk
theorem bX13_turn_0 (B : Bd p s m args meth c cX13_turn 6 (wsOf yX13_turn cX13_turn 6 none) RX13 w none "turn") {v0 : Nat} {v1 : Int32} {v2 : Int32} {Q : State → Prop}  (kk : K p l e rX13_turn s m args below meth c 6 w 0 0 Q S 5 [(0, .ref v0), (3, .int v1), (4, .int v2)] []) : K p l e rX13_turn s m args below meth c 6 w 0 0 Q S 0 [(0, .ref v0), (1, .int v1), (2, .int v2)] [] := by
  refine k_iload_n B 1 rfl rfl dX13_turn_0 ?_
  refine k_istore_n (lst' := [(3, .int v1), (0, .ref v0), (1, .int v1), (2, .int v2)]) B rfl (by decide) rfl dX13_turn_1 ?_
  refine k_iload_n B 3 rfl rfl dX13_turn_2 ?_
  refine k_istore (lst' := [(4, .int v2), (3, .int v1), (0, .ref v0), (1, .int v1), (2, .int v2)]) B (by decide) rfl dX13_turn_3 ?_
  refine k_sub [2, 1, 0] rfl ?_
  exact kk
theorem bX13_turn_5 (B : Bd p s m args meth c cX13_turn 6 (wsOf yX13_turn cX13_turn 6 none) RX13 w none "turn") {v0 : Nat} {v3 : Int32} {v4 : Int32} {Q : State → Prop}  (kt : v4 ≤ v3 → K p l e rX13_turn s m args below meth c 6 w 0 0 Q S 50 [] []) (kf : ¬ v4 ≤ v3 → K p l e rX13_turn s m args below meth c 6 w 0 0 Q S 11 [(0, .ref v0), (3, .int v3), (4, .int v4)] []) : K p l e rX13_turn s m args below meth c 6 w 0 0 Q S 5 [(0, .ref v0), (3, .int v3), (4, .int v4)] [] := by
  refine k_iload_n B 1 rfl rfl dX13_turn_5 ?_
  refine k_iload B 2 rfl dX13_turn_6 ?_
  refine k_icmp_ge (tgt := 50) B dX13_turn_8 (by decide) (fun c => ?_) (fun c => ?_)
  · refine k_sub [] rfl ?_
    exact kt c
  · exact kf c
theorem bX13_turn_11 (B : Bd p s m args meth c cX13_turn 6 (wsOf yX13_turn cX13_turn 6 none) RX13 w none "turn") {v0 : Nat} {v3 : Int32} {v4 : Int32} {x1 : Nat} {x2 : Nat} {x3 : Nat} {Q : State → Prop} (h1 : kd S v0 = 15) (h2 : gP S 921 v0 = some x1) (h3 : kd S x1 = 21) (h4 : vp_in v3 (ln S x1)) (h5 : gP S 921 v0 = some x2) (h6 : gP S 921 v0 = some x3) (h7 : kd S x3 = 21) (h8 : vp_in v4 (ln S x3)) (h9 : kd S x2 = 21) (h10 : vp_in v3 (ln S x2)) (kk : K p l e rX13_turn s m args below meth c 6 w 0 0 Q (sRI S x2 (va_up (rI S x2) v3.toNatClampNeg ((rI S x3) v4.toNatClampNeg))) 32 [(0, .ref v0), (3, .int v3), (4, .int v4), (5, .int ((rI S x1) v3.toNatClampNeg))] []) : K p l e rX13_turn s m args below meth c 6 w 0 0 Q S 11 [(0, .ref v0), (3, .int v3), (4, .int v4)] [] := by
  refine k_aload_n B 0 rfl rfl dX13_turn_11 ?_
  refine k_getP (f := 921) (r := gP S 921 v0) B 14 25 rfl (by decide) rfl (by decide) rfl rfl (fun w h => in_of (uw_14 w h)) (in_of qfRX13_77) dX13_turn_12 h1 rfl ?_
  rw [h2]; change K _ _ _ _ _ _ _ _ _ _ _ _ _ _ _ _ _ _ (.ref x1 :: _)
  refine k_iload_n B 1 rfl rfl dX13_turn_15 ?_
  refine k_iald (v := (rI S x1) v3.toNatClampNeg) B dX13_turn_16 h3 h4 rfl ?_
  refine k_istore (lst' := [(5, .int ((rI S x1) v3.toNatClampNeg)), (0, .ref v0), (3, .int v3), (4, .int v4)]) B (by decide) rfl dX13_turn_17 ?_
  refine k_aload_n B 1 rfl rfl dX13_turn_19 ?_
  refine k_getP (f := 921) (r := gP S 921 v0) B 14 25 rfl (by decide) rfl (by decide) rfl rfl (fun w h => in_of (uw_14 w h)) (in_of qfRX13_77) dX13_turn_20 h1 rfl ?_
  rw [h5]; change K _ _ _ _ _ _ _ _ _ _ _ _ _ _ _ _ _ _ (.ref x2 :: _)
  refine k_iload_n B 2 rfl rfl dX13_turn_23 ?_
  refine k_aload_n B 1 rfl rfl dX13_turn_24 ?_
  refine k_getP (f := 921) (r := gP S 921 v0) B 14 25 rfl (by decide) rfl (by decide) rfl rfl (fun w h => in_of (uw_14 w h)) (in_of qfRX13_77) dX13_turn_25 h1 rfl ?_
  rw [h6]; change K _ _ _ _ _ _ _ _ _ _ _ _ _ _ _ _ _ _ (.ref x3 :: _)
  refine k_iload B 3 rfl dX13_turn_28 ?_
  refine k_iald (v := (rI S x3) v4.toNatClampNeg) B dX13_turn_30 h7 h8 rfl ?_
  refine k_iast (g := rI S x2) (S' := sRI S x2 (va_up (rI S x2) v3.toNatClampNeg ((rI S x3) v4.toNatClampNeg))) B dX13_turn_31 h9 h10 rfl rfl ?_
  refine k_sub [1, 2, 3, 0] rfl ?_
  exact kk
theorem bX13_turn_32 (B : Bd p s m args meth c cX13_turn 6 (wsOf yX13_turn cX13_turn 6 none) RX13 w none "turn") {v0 : Nat} {v3 : Int32} {v4 : Int32} {v5 : Int32} {x1 : Nat} {Q : State → Prop} (h1 : kd S v0 = 15) (h2 : gP S 921 v0 = some x1) (h3 : kd S x1 = 21) (h4 : vp_in v4 (ln S x1)) (kk : K p l e rX13_turn s m args below meth c 6 w 0 0 Q (sRI S x1 (va_up (rI S x1) v4.toNatClampNeg v5)) 41 [(0, .ref v0), (3, .int v3), (4, .int v4)] []) : K p l e rX13_turn s m args below meth c 6 w 0 0 Q S 32 [(0, .ref v0), (3, .int v3), (4, .int v4), (5, .int v5)] [] := by
  refine k_aload_n B 0 rfl rfl dX13_turn_32 ?_
  refine k_getP (f := 921) (r := gP S 921 v0) B 14 25 rfl (by decide) rfl (by decide) rfl rfl (fun w h => in_of (uw_14 w h)) (in_of qfRX13_77) dX13_turn_33 h1 rfl ?_
  rw [h2]; change K _ _ _ _ _ _ _ _ _ _ _ _ _ _ _ _ _ _ (.ref x1 :: _)
  refine k_iload B 2 rfl dX13_turn_36 ?_
  refine k_iload B 3 rfl dX13_turn_38 ?_
  refine k_iast (g := rI S x1) (S' := sRI S x1 (va_up (rI S x1) v4.toNatClampNeg v5)) B dX13_turn_40 h3 h4 rfl rfl ?_
  refine k_sub [0, 1, 2] rfl ?_
  exact kk
theorem bX13_turn_41 (B : Bd p s m args meth c cX13_turn 6 (wsOf yX13_turn cX13_turn 6 none) RX13 w none "turn") {v0 : Nat} {v3 : Int32} {v4 : Int32} {Q : State → Prop}  (kk : K p l e rX13_turn s m args below meth c 6 w 0 0 Q S 5 [(0, .ref v0), (3, .int (v3 + 1)), (4, .int (v4 + (-1)))] []) : K p l e rX13_turn s m args below meth c 6 w 0 0 Q S 41 [(0, .ref v0), (3, .int v3), (4, .int v4)] [] := by
  refine k_iinc (v := v3 + 1) (lst' := [(3, .int (v3 + 1)), (0, .ref v0), (4, .int v4)]) B 1 rfl rfl (by decide) rfl dX13_turn_41 ?_
  refine k_iinc (v := v4 + (-1)) (lst' := [(4, .int (v4 + (-1))), (3, .int (v3 + 1)), (0, .ref v0)]) B 2 rfl (congrArg (fun z => v4 + z) (by decide)) (by decide) rfl dX13_turn_44 ?_
  refine k_goto (tgt := 5) B dX13_turn_47 (by decide) ?_
  refine k_sub [2, 1, 0] rfl ?_
  exact kk
theorem bX13_turn_50 (B : Bd p s m args meth c cX13_turn 6 (wsOf yX13_turn cX13_turn 6 none) RX13 w none "turn") {post : St → Prop}  (hq : post S) : K p l e rX13_turn s m args below meth c 6 w 0 0 (MQ below (va_Qv post (fun S' t => Hd w S' t.heap) (wA w)) args s 0 0 (wA w)) S 50 [] [] := by
  exact ret_V B rfl dX13_turn_50 (hq)
theorem bX13_improve_0 (B : Bd p s m args meth c cX13_improve 9 (wsOf yX13_improve cX13_improve 9 (some .int)) RX13 w (some .int) "improve") {v0 : Nat} {v1 : Int32} {post : Int32 → St → Prop} {Q : State → Prop} (h1 : kd S v0 = 15) (hc : ConI l yX13_isVan (wsOf yX13_isVan cX13_isVan 2 (some .boolean)) rX13_isVan w (sI S 896 v0 0) [.ref v0, .int v1] post) (kk : ∀ (r : Int32) (S' : St), post r S' → K p l e rX13_improve s m args below meth c 9 w 0 0 Q S' 10 [(0, .ref v0), (1, .int v1)] [.int r]) : K p l e rX13_improve s m args below meth c 9 w 0 0 Q S 0 [(0, .ref v0), (1, .int v1)] [] := by
  refine k_aload_n B 0 rfl rfl dX13_improve_0 ?_
  refine k_iconst (v := 0) B (by decide) dX13_improve_1 ?_
  refine k_putI (f := 896) B 14 0 rfl (by decide) rfl (by decide) rfl rfl (fun w h => in_of (uw_14 w h)) (in_of qfRX13_95) tyX13 tyX13_ok nmX13 rfl (tyX13_ok 0 (by decide)) dX13_improve_2 h1 ?_
  refine k_aload_n B 0 rfl rfl dX13_improve_5 ?_
  refine k_iload_n B 1 rfl rfl dX13_improve_6 ?_
  refine callV_I (st := []) B [.int v1] (hc) (cwV 1 B.1.2.2.2.2 (gV qlRX13_218 qiX13_isVan qeX13_isVan qzRX13 qcX13_isVan) rfl rfl rfl (by decide +kernel) ⟨Nat.le_of_ble_eq_true rfl, Nat.le_of_ble_eq_true rfl⟩) rfl rfl (by decide) h1 (Nat.le_of_ble_eq_true rfl) rfl dX13_improve_7 ⟨Nat.le_of_ble_eq_true rfl, Nat.le_of_ble_eq_true rfl⟩ (fun r S' hp => ?_)
  exact kk r S' hp
theorem bX13_improve_10 (B : Bd p s m args meth c cX13_improve 9 (wsOf yX13_improve cX13_improve 9 (some .int)) RX13 w (some .int) "improve") {v0 : Nat} {v1 : Int32} {t0 : Int32} {Q : State → Prop}  (kt : ¬ t0 = 0 → K p l e rX13_improve s m args below meth c 9 w 0 0 Q S 19 [(0, .ref v0), (1, .int v1)] []) (kf : t0 = 0 → K p l e rX13_improve s m args below meth c 9 w 0 0 Q S 13 [(0, .ref v0)] []) : K p l e rX13_improve s m args below meth c 9 w 0 0 Q S 10 [(0, .ref v0), (1, .int v1)] [.int t0] := by
  refine k_if_ne (tgt := 19) B dX13_improve_10 (by decide) (fun c => ?_) (fun c => ?_)
  · exact kt c
  · refine k_sub [0] rfl ?_
    exact kf c
theorem bX13_improve_13 (B : Bd p s m args meth c cX13_improve 9 (wsOf yX13_improve cX13_improve 9 (some .int)) RX13 w (some .int) "improve") {v0 : Nat} {post : Int32 → St → Prop} {Q : State → Prop} (hc : ConI l yX13_no (wsOf yX13_no cX13_no 2 (some .int)) rX13_no w S [.ref v0, .int 1] post) (h1 : kd S v0 = 15) (kk : ∀ (r : Int32) (S' : St), post r S' → K p l e rX13_improve s m args below meth c 9 w 0 0 Q S' 18 [] [.int r]) : K p l e rX13_improve s m args below meth c 9 w 0 0 Q S 13 [(0, .ref v0)] [] := by
  refine k_aload_n B 0 rfl rfl dX13_improve_13 ?_
  refine k_iconst (v := 1) B (by decide) dX13_improve_14 ?_
  refine callV_I (st := []) B [.int 1] (hc) (cwV 1 B.1.2.2.2.2 (gV qlRX13_120 qiX13_no qeX13_no qzRX13 qcX13_no) rfl rfl rfl (by decide +kernel) ⟨Nat.le_of_ble_eq_true rfl, Nat.le_of_ble_eq_true rfl⟩) rfl rfl (by decide) h1 (Nat.le_of_ble_eq_true rfl) rfl dX13_improve_15 ⟨Nat.le_of_ble_eq_true rfl, Nat.le_of_ble_eq_true rfl⟩ (fun r S' hp => ?_)
  refine k_sub [] rfl ?_
  exact kk r S' hp
theorem bX13_improve_18 (B : Bd p s m args meth c cX13_improve 9 (wsOf yX13_improve cX13_improve 9 (some .int)) RX13 w (some .int) "improve") {t0 : Int32} {post : Int32 → St → Prop}  (hq : post t0 S) : K p l e rX13_improve s m args below meth c 9 w 0 0 (MQ below (va_Qi post (fun S' t => Hd w S' t.heap) (wA w)) args s 0 0 (wA w)) S 18 [] [.int t0] := by
  exact ret_I B rfl dX13_improve_18 (hq)
theorem bX13_improve_19 (B : Bd p s m args meth c cX13_improve 9 (wsOf yX13_improve cX13_improve 9 (some .int)) RX13 w (some .int) "improve") {v0 : Nat} {v1 : Int32} {post : Int32 → St → Prop} {Q : State → Prop} (hc : ConI l yX13_routeCost (wsOf yX13_routeCost cX13_routeCost 2 (some .int)) rX13_routeCost w S [.ref v0, .int v1] post) (h1 : kd S v0 = 15) (kk : ∀ (r : Int32) (S' : St), post r S' → K p l e rX13_improve s m args below meth c 9 w 0 0 Q S' 24 [(0, .ref v0), (1, .int v1)] [.int r]) : K p l e rX13_improve s m args below meth c 9 w 0 0 Q S 19 [(0, .ref v0), (1, .int v1)] [] := by
  refine k_aload_n B 0 rfl rfl dX13_improve_19 ?_
  refine k_iload_n B 1 rfl rfl dX13_improve_20 ?_
  refine callV_I (st := []) B [.int v1] (hc) (cwV 1 B.1.2.2.2.2 (gV qlRX13_210 qiX13_routeCost qeX13_routeCost qzRX13 qcX13_routeCost) rfl rfl rfl (by decide +kernel) ⟨Nat.le_of_ble_eq_true rfl, Nat.le_of_ble_eq_true rfl⟩) rfl rfl (by decide) h1 (Nat.le_of_ble_eq_true rfl) rfl dX13_improve_21 ⟨Nat.le_of_ble_eq_true rfl, Nat.le_of_ble_eq_true rfl⟩ (fun r S' hp => ?_)
  exact kk r S' hp
theorem bX13_improve_24 (B : Bd p s m args meth c cX13_improve 9 (wsOf yX13_improve cX13_improve 9 (some .int)) RX13 w (some .int) "improve") {v0 : Nat} {v1 : Int32} {t0 : Int32} {Q : State → Prop}  (kk : K p l e rX13_improve s m args below meth c 9 w 0 0 Q S 36 [(0, .ref v0), (1, .int v1), (2, .int t0), (3, .int t0), (4, .int (-1)), (5, .int (-1)), (6, .int 0)] []) : K p l e rX13_improve s m args below meth c 9 w 0 0 Q S 24 [(0, .ref v0), (1, .int v1)] [.int t0] := by
  refine k_istore_n (lst' := [(2, .int t0), (0, .ref v0), (1, .int v1)]) B rfl (by decide) rfl dX13_improve_24 ?_
  refine k_iload_n B 0 rfl rfl dX13_improve_25 ?_
  refine k_istore_n (lst' := [(3, .int t0), (2, .int t0), (0, .ref v0), (1, .int v1)]) B rfl (by decide) rfl dX13_improve_26 ?_
  refine k_iconst (v := (-1)) B (by decide) dX13_improve_27 ?_
  refine k_istore (lst' := [(4, .int (-1)), (3, .int t0), (2, .int t0), (0, .ref v0), (1, .int v1)]) B (by decide) rfl dX13_improve_28 ?_
  refine k_iconst (v := (-1)) B (by decide) dX13_improve_30 ?_
  refine k_istore (lst' := [(5, .int (-1)), (4, .int (-1)), (3, .int t0), (2, .int t0), (0, .ref v0), (1, .int v1)]) B (by decide) rfl dX13_improve_31 ?_
  refine k_iconst (v := 0) B (by decide) dX13_improve_33 ?_
  refine k_istore (lst' := [(6, .int 0), (5, .int (-1)), (4, .int (-1)), (3, .int t0), (2, .int t0), (0, .ref v0), (1, .int v1)]) B (by decide) rfl dX13_improve_34 ?_
  refine k_sub [5, 6, 4, 3, 2, 1, 0] rfl ?_
  exact kk
theorem bX13_improve_36 (B : Bd p s m args meth c cX13_improve 9 (wsOf yX13_improve cX13_improve 9 (some .int)) RX13 w (some .int) "improve") {v0 : Nat} {v1 : Int32} {v2 : Int32} {v3 : Int32} {v4 : Int32} {v5 : Int32} {v6 : Int32} {x1 : Nat} {x2 : Nat} {Q : State → Prop} (h1 : kd S v0 = 15) (h2 : gP S 919 v0 = some x1) (h3 : kd S x1 = 14) (h4 : gP S 840 x1 = some x2) (h5 : kd S x2 = 21) (h6 : vp_in v1 (ln S x2)) (kt : ((rI S x2) v1.toNatClampNeg) ≤ v6 → K p l e rX13_improve s m args below meth c 9 w 0 0 Q S 135 [(0, .ref v0), (1, .int v1), (2, .int v2), (3, .int v3), (4, .int v4), (5, .int v5)] []) (kf : ¬ ((rI S x2) v1.toNatClampNeg) ≤ v6 → K p l e rX13_improve s m args below meth c 9 w 0 0 Q S 50 [(0, .ref v0), (1, .int v1), (2, .int v2), (3, .int v3), (4, .int v4), (5, .int v5), (6, .int v6)] []) : K p l e rX13_improve s m args below meth c 9 w 0 0 Q S 36 [(0, .ref v0), (1, .int v1), (2, .int v2), (3, .int v3), (4, .int v4), (5, .int v5), (6, .int v6)] [] := by
  refine k_iload B 6 rfl dX13_improve_36 ?_
  refine k_aload_n B 0 rfl rfl dX13_improve_38 ?_
  refine k_getP (f := 919) (r := gP S 919 v0) B 14 23 rfl (by decide) rfl (by decide) rfl rfl (fun w h => in_of (uw_14 w h)) (in_of qfRX13_70) dX13_improve_39 h1 rfl ?_
  rw [h2]; change K _ _ _ _ _ _ _ _ _ _ _ _ _ _ _ _ _ _ (.ref x1 :: _)
  refine k_getPN (f := 840) (r := gP S 840 x1) B 13 8 rfl (by decide) rfl (by decide) rfl rfl (fun w h => in_of (uw_13 w h)) "LastMileModel" (nzF_5 B.2.2.2.1.2.2.2.1) dX13_improve_42 h3 rfl ?_
  rw [h4]; change K _ _ _ _ _ _ _ _ _ _ _ _ _ _ _ _ _ _ (.ref x2 :: _)
  refine k_iload_n B 1 rfl rfl dX13_improve_45 ?_
  refine k_iald (v := (rI S x2) v1.toNatClampNeg) B dX13_improve_46 h5 h6 rfl ?_
  refine k_icmp_ge (tgt := 135) B dX13_improve_47 (by decide) (fun c => ?_) (fun c => ?_)
  · refine k_sub [0, 1, 2, 3, 4, 5] rfl ?_
    exact kt c
  · exact kf c
theorem bX13_improve_50 (B : Bd p s m args meth c cX13_improve 9 (wsOf yX13_improve cX13_improve 9 (some .int)) RX13 w (some .int) "improve") {v0 : Nat} {v1 : Int32} {v2 : Int32} {v3 : Int32} {v4 : Int32} {v5 : Int32} {v6 : Int32} {Q : State → Prop}  (kk : K p l e rX13_improve s m args below meth c 9 w 0 0 Q S 56 [(0, .ref v0), (1, .int v1), (2, .int v2), (3, .int v3), (4, .int v4), (5, .int v5), (6, .int v6), (7, .int (v6 + 1))] []) : K p l e rX13_improve s m args below meth c 9 w 0 0 Q S 50 [(0, .ref v0), (1, .int v1), (2, .int v2), (3, .int v3), (4, .int v4), (5, .int v5), (6, .int v6)] [] := by
  refine k_iload B 6 rfl dX13_improve_50 ?_
  refine k_iconst (v := 1) B (by decide) dX13_improve_52 ?_
  refine k_iadd B dX13_improve_53 ?_
  refine k_istore (lst' := [(7, .int (v6 + 1)), (0, .ref v0), (1, .int v1), (2, .int v2), (3, .int v3), (4, .int v4), (5, .int v5), (6, .int v6)]) B (by decide) rfl dX13_improve_54 ?_
  refine k_sub [1, 2, 3, 4, 5, 6, 7, 0] rfl ?_
  exact kk
theorem bX13_improve_56 (B : Bd p s m args meth c cX13_improve 9 (wsOf yX13_improve cX13_improve 9 (some .int)) RX13 w (some .int) "improve") {v0 : Nat} {v1 : Int32} {v2 : Int32} {v3 : Int32} {v4 : Int32} {v5 : Int32} {v6 : Int32} {v7 : Int32} {x1 : Nat} {x2 : Nat} {Q : State → Prop} (h1 : kd S v0 = 15) (h2 : gP S 919 v0 = some x1) (h3 : kd S x1 = 14) (h4 : gP S 840 x1 = some x2) (h5 : kd S x2 = 21) (h6 : vp_in v1 (ln S x2)) (kt : ((rI S x2) v1.toNatClampNeg) ≤ v7 → K p l e rX13_improve s m args below meth c 9 w 0 0 Q S 129 [(0, .ref v0), (1, .int v1), (2, .int v2), (3, .int v3), (4, .int v4), (5, .int v5), (6, .int v6)] []) (kf : ¬ ((rI S x2) v1.toNatClampNeg) ≤ v7 → K p l e rX13_improve s m args below meth c 9 w 0 0 Q S 70 [(0, .ref v0), (1, .int v1), (2, .int v2), (3, .int v3), (4, .int v4), (5, .int v5), (6, .int v6), (7, .int v7)] []) : K p l e rX13_improve s m args below meth c 9 w 0 0 Q S 56 [(0, .ref v0), (1, .int v1), (2, .int v2), (3, .int v3), (4, .int v4), (5, .int v5), (6, .int v6), (7, .int v7)] [] := by
  refine k_iload B 7 rfl dX13_improve_56 ?_
  refine k_aload_n B 0 rfl rfl dX13_improve_58 ?_
  refine k_getP (f := 919) (r := gP S 919 v0) B 14 23 rfl (by decide) rfl (by decide) rfl rfl (fun w h => in_of (uw_14 w h)) (in_of qfRX13_70) dX13_improve_59 h1 rfl ?_
  rw [h2]; change K _ _ _ _ _ _ _ _ _ _ _ _ _ _ _ _ _ _ (.ref x1 :: _)
  refine k_getPN (f := 840) (r := gP S 840 x1) B 13 8 rfl (by decide) rfl (by decide) rfl rfl (fun w h => in_of (uw_13 w h)) "LastMileModel" (nzF_5 B.2.2.2.1.2.2.2.1) dX13_improve_62 h3 rfl ?_
  rw [h4]; change K _ _ _ _ _ _ _ _ _ _ _ _ _ _ _ _ _ _ (.ref x2 :: _)
  refine k_iload_n B 1 rfl rfl dX13_improve_65 ?_
  refine k_iald (v := (rI S x2) v1.toNatClampNeg) B dX13_improve_66 h5 h6 rfl ?_
  refine k_icmp_ge (tgt := 129) B dX13_improve_67 (by decide) (fun c => ?_) (fun c => ?_)
  · refine k_sub [0, 1, 2, 3, 4, 5, 6] rfl ?_
    exact kt c
  · exact kf c
theorem bX13_improve_70 (B : Bd p s m args meth c cX13_improve 9 (wsOf yX13_improve cX13_improve 9 (some .int)) RX13 w (some .int) "improve") {v0 : Nat} {v1 : Int32} {v2 : Int32} {v3 : Int32} {v4 : Int32} {v5 : Int32} {v6 : Int32} {v7 : Int32} {post : St → Prop} {Q : State → Prop} (hc : ConV l yX13_look (wsOf yX13_look cX13_look 2 none) rX13_look w S [.ref v0, .int v1] post) (h1 : kd S v0 = 15) (kk : ∀ (S' : St), post S' → K p l e rX13_improve s m args below meth c 9 w 0 0 Q S' 75 [(0, .ref v0), (1, .int v1), (2, .int v2), (3, .int v3), (4, .int v4), (5, .int v5), (6, .int v6), (7, .int v7)] []) : K p l e rX13_improve s m args below meth c 9 w 0 0 Q S 70 [(0, .ref v0), (1, .int v1), (2, .int v2), (3, .int v3), (4, .int v4), (5, .int v5), (6, .int v6), (7, .int v7)] [] := by
  refine k_aload_n B 0 rfl rfl dX13_improve_70 ?_
  refine k_iload_n B 1 rfl rfl dX13_improve_71 ?_
  refine callV_V (st := []) B [.int v1] (hc) (cwV 1 B.1.2.2.2.2 (gV qlRX13_203 qiX13_look qeX13_look qzRX13 qcX13_look) rfl rfl rfl (by decide +kernel) ⟨Nat.le_of_ble_eq_true rfl, Nat.le_of_ble_eq_true rfl⟩) rfl rfl (by decide) h1 (Nat.le_of_ble_eq_true rfl) rfl dX13_improve_72 ⟨Nat.le_of_ble_eq_true rfl, Nat.le_of_ble_eq_true rfl⟩ (fun S' hp => ?_)
  exact kk S' hp
theorem bX13_improve_75 (B : Bd p s m args meth c cX13_improve 9 (wsOf yX13_improve cX13_improve 9 (some .int)) RX13 w (some .int) "improve") {v0 : Nat} {v1 : Int32} {v2 : Int32} {v3 : Int32} {v4 : Int32} {v5 : Int32} {v6 : Int32} {v7 : Int32} {post : St → Prop} {Q : State → Prop} (hc : ConV l yX13_turn (wsOf yX13_turn cX13_turn 6 none) rX13_turn w S [.ref v0, .int v6, .int v7] post) (h1 : kd S v0 = 15) (kk : ∀ (S' : St), post S' → K p l e rX13_improve s m args below meth c 9 w 0 0 Q S' 83 [(0, .ref v0), (1, .int v1), (2, .int v2), (3, .int v3), (4, .int v4), (5, .int v5), (6, .int v6), (7, .int v7)] []) : K p l e rX13_improve s m args below meth c 9 w 0 0 Q S 75 [(0, .ref v0), (1, .int v1), (2, .int v2), (3, .int v3), (4, .int v4), (5, .int v5), (6, .int v6), (7, .int v7)] [] := by
  refine k_aload_n B 0 rfl rfl dX13_improve_75 ?_
  refine k_iload B 6 rfl dX13_improve_76 ?_
  refine k_iload B 7 rfl dX13_improve_78 ?_
  refine callV_V (st := []) B [.int v6, .int v7] (hc) (cwV 2 B.1.2.2.2.2 (gV qlRX13_243 qiX13_turn qeX13_turn qzRX13 qcX13_turn) rfl rfl rfl (by decide +kernel) ⟨Nat.le_of_ble_eq_true rfl, Nat.le_of_ble_eq_true rfl⟩) rfl rfl (by decide) h1 (Nat.le_of_ble_eq_true rfl) rfl dX13_improve_80 ⟨Nat.le_of_ble_eq_true rfl, Nat.le_of_ble_eq_true rfl⟩ (fun S' hp => ?_)
  exact kk S' hp
theorem bX13_improve_83 (B : Bd p s m args meth c cX13_improve 9 (wsOf yX13_improve cX13_improve 9 (some .int)) RX13 w (some .int) "improve") {v0 : Nat} {v1 : Int32} {v2 : Int32} {v3 : Int32} {v4 : Int32} {v5 : Int32} {v6 : Int32} {v7 : Int32} {post : Int32 → St → Prop} {Q : State → Prop} (hc : ConI l yX13_cost (wsOf yX13_cost cX13_cost 14 (some .int)) rX13_cost w S [.ref v0, .int v1] post) (h1 : kd S v0 = 15) (kk : ∀ (r : Int32) (S' : St), post r S' → K p l e rX13_improve s m args below meth c 9 w 0 0 Q S' 88 [(0, .ref v0), (1, .int v1), (2, .int v2), (3, .int v3), (4, .int v4), (5, .int v5), (6, .int v6), (7, .int v7)] [.int r]) : K p l e rX13_improve s m args below meth c 9 w 0 0 Q S 83 [(0, .ref v0), (1, .int v1), (2, .int v2), (3, .int v3), (4, .int v4), (5, .int v5), (6, .int v6), (7, .int v7)] [] := by
  refine k_aload_n B 0 rfl rfl dX13_improve_83 ?_
  refine k_iload_n B 1 rfl rfl dX13_improve_84 ?_
  refine callV_I (st := []) B [.int v1] (hc) (cwV 1 B.1.2.2.2.2 (gV qlRX13_207 qiX13_cost qeX13_cost qzRX13 qcX13_cost) rfl rfl rfl (by decide +kernel) ⟨Nat.le_of_ble_eq_true rfl, Nat.le_of_ble_eq_true rfl⟩) rfl rfl (by decide) h1 (Nat.le_of_ble_eq_true rfl) rfl dX13_improve_85 ⟨Nat.le_of_ble_eq_true rfl, Nat.le_of_ble_eq_true rfl⟩ (fun r S' hp => ?_)
  exact kk r S' hp
theorem bX13_improve_88 (B : Bd p s m args meth c cX13_improve 9 (wsOf yX13_improve cX13_improve 9 (some .int)) RX13 w (some .int) "improve") {v0 : Nat} {v1 : Int32} {v2 : Int32} {v3 : Int32} {v4 : Int32} {v5 : Int32} {v6 : Int32} {v7 : Int32} {t0 : Int32} {x1 : Nat} {Q : State → Prop} (h1 : kd S v0 = 15) (h2 : gP S 910 v0 = some x1) (h3 : kd S x1 = 21) (h4 : vp_in v1 (ln S x1)) (kt : ((rI S x1) v1.toNatClampNeg) < (gI S 930 v0) → K p l e rX13_improve s m args below meth c 9 w 0 0 Q S 123 [(0, .ref v0), (1, .int v1), (2, .int v2), (3, .int v3), (4, .int v4), (5, .int v5), (6, .int v6), (7, .int v7)] []) (kf : ¬ ((rI S x1) v1.toNatClampNeg) < (gI S 930 v0) → K p l e rX13_improve s m args below meth c 9 w 0 0 Q S 103 [(0, .ref v0), (1, .int v1), (2, .int v2), (3, .int v3), (4, .int v4), (5, .int v5), (6, .int v6), (7, .int v7), (8, .int t0)] []) : K p l e rX13_improve s m args below meth c 9 w 0 0 Q S 88 [(0, .ref v0), (1, .int v1), (2, .int v2), (3, .int v3), (4, .int v4), (5, .int v5), (6, .int v6), (7, .int v7)] [.int t0] := by
  refine k_istore (lst' := [(8, .int t0), (0, .ref v0), (1, .int v1), (2, .int v2), (3, .int v3), (4, .int v4), (5, .int v5), (6, .int v6), (7, .int v7)]) B (by decide) rfl dX13_improve_88 ?_
  refine k_aload_n B 1 rfl rfl dX13_improve_90 ?_
  refine k_getI (f := 930) (v := gI S 930 v0) B 14 34 rfl (by decide) rfl (by decide) rfl rfl (fun w h => in_of (uw_14 w h)) (in_of qfRX13_187) dX13_improve_91 h1 rfl ?_
  refine k_aload_n B 1 rfl rfl dX13_improve_94 ?_
  refine k_getP (f := 910) (r := gP S 910 v0) B 14 14 rfl (by decide) rfl (by decide) rfl rfl (fun w h => in_of (uw_14 w h)) (in_of qfRX13_41) dX13_improve_95 h1 rfl ?_
  rw [h2]; change K _ _ _ _ _ _ _ _ _ _ _ _ _ _ _ _ _ _ (.ref x1 :: _)
  refine k_iload_n B 2 rfl rfl dX13_improve_98 ?_
  refine k_iald (v := (rI S x1) v1.toNatClampNeg) B dX13_improve_99 h3 h4 rfl ?_
  refine k_icmp_gt (tgt := 123) B dX13_improve_100 (by decide) (fun c => ?_) (fun c => ?_)
  · refine k_sub [1, 2, 3, 4, 5, 6, 7, 8] rfl ?_
    exact kt c
  · refine k_sub [1, 2, 3, 4, 5, 6, 7, 8, 0] rfl ?_
    exact kf c
theorem bX13_improve_103 (B : Bd p s m args meth c cX13_improve 9 (wsOf yX13_improve cX13_improve 9 (some .int)) RX13 w (some .int) "improve") {v0 : Nat} {v1 : Int32} {v2 : Int32} {v3 : Int32} {v4 : Int32} {v5 : Int32} {v6 : Int32} {v7 : Int32} {v8 : Int32} {Q : State → Prop}  (kt : v8 < v3 → K p l e rX13_improve s m args below meth c 9 w 0 0 Q S 112 [(0, .ref v0), (1, .int v1), (2, .int v2), (6, .int v6), (7, .int v7), (8, .int v8)] []) (kf : ¬ v8 < v3 → K p l e rX13_improve s m args below meth c 9 w 0 0 Q S 109 [(0, .ref v0), (1, .int v1), (2, .int v2), (3, .int v3), (4, .int v4), (5, .int v5), (6, .int v6), (7, .int v7)] []) : K p l e rX13_improve s m args below meth c 9 w 0 0 Q S 103 [(0, .ref v0), (1, .int v1), (2, .int v2), (3, .int v3), (4, .int v4), (5, .int v5), (6, .int v6), (7, .int v7), (8, .int v8)] [] := by
  refine k_iload B 8 rfl dX13_improve_103 ?_
  refine k_iload_n B 3 rfl rfl dX13_improve_105 ?_
  refine k_icmp_lt (tgt := 112) B dX13_improve_106 (by decide) (fun c => ?_) (fun c => ?_)
  · refine k_sub [0, 1, 2, 6, 7, 8] rfl ?_
    exact kt c
  · refine k_sub [0, 1, 2, 3, 4, 5, 6, 7] rfl ?_
    exact kf c
theorem bX13_improve_109 (B : Bd p s m args meth c cX13_improve 9 (wsOf yX13_improve cX13_improve 9 (some .int)) RX13 w (some .int) "improve") {v0 : Nat} {v1 : Int32} {v2 : Int32} {v3 : Int32} {v4 : Int32} {v5 : Int32} {v6 : Int32} {v7 : Int32} {Q : State → Prop}  (kk : K p l e rX13_improve s m args below meth c 9 w 0 0 Q S 123 [(0, .ref v0), (1, .int v1), (2, .int v2), (3, .int v3), (4, .int v4), (5, .int v5), (6, .int v6), (7, .int v7)] []) : K p l e rX13_improve s m args below meth c 9 w 0 0 Q S 109 [(0, .ref v0), (1, .int v1), (2, .int v2), (3, .int v3), (4, .int v4), (5, .int v5), (6, .int v6), (7, .int v7)] [] := by
  refine k_goto (tgt := 123) B dX13_improve_109 (by decide) ?_
  exact kk
theorem bX13_improve_112 (B : Bd p s m args meth c cX13_improve 9 (wsOf yX13_improve cX13_improve 9 (some .int)) RX13 w (some .int) "improve") {v0 : Nat} {v1 : Int32} {v2 : Int32} {v6 : Int32} {v7 : Int32} {v8 : Int32} {Q : State → Prop}  (kk : K p l e rX13_improve s m args below meth c 9 w 0 0 Q S 123 [(0, .ref v0), (1, .int v1), (2, .int v2), (3, .int v8), (4, .int v6), (5, .int v7), (6, .int v6), (7, .int v7)] []) : K p l e rX13_improve s m args below meth c 9 w 0 0 Q S 112 [(0, .ref v0), (1, .int v1), (2, .int v2), (6, .int v6), (7, .int v7), (8, .int v8)] [] := by
  refine k_iload B 5 rfl dX13_improve_112 ?_
  refine k_istore_n (lst' := [(3, .int v8), (0, .ref v0), (1, .int v1), (2, .int v2), (6, .int v6), (7, .int v7), (8, .int v8)]) B rfl (by decide) rfl dX13_improve_114 ?_
  refine k_iload B 4 rfl dX13_improve_115 ?_
  refine k_istore (lst' := [(4, .int v6), (3, .int v8), (0, .ref v0), (1, .int v1), (2, .int v2), (6, .int v6), (7, .int v7), (8, .int v8)]) B (by decide) rfl dX13_improve_117 ?_
  refine k_iload B 6 rfl dX13_improve_119 ?_
  refine k_istore (lst' := [(5, .int v7), (4, .int v6), (3, .int v8), (0, .ref v0), (1, .int v1), (2, .int v2), (6, .int v6), (7, .int v7), (8, .int v8)]) B (by decide) rfl dX13_improve_121 ?_
  refine k_sub [3, 4, 5, 2, 1, 0, 6, 7] rfl ?_
  exact kk
theorem bX13_improve_123 (B : Bd p s m args meth c cX13_improve 9 (wsOf yX13_improve cX13_improve 9 (some .int)) RX13 w (some .int) "improve") {v0 : Nat} {v1 : Int32} {v2 : Int32} {v3 : Int32} {v4 : Int32} {v5 : Int32} {v6 : Int32} {v7 : Int32} {Q : State → Prop}  (kk : K p l e rX13_improve s m args below meth c 9 w 0 0 Q S 56 [(0, .ref v0), (1, .int v1), (2, .int v2), (3, .int v3), (4, .int v4), (5, .int v5), (6, .int v6), (7, .int (v7 + 1))] []) : K p l e rX13_improve s m args below meth c 9 w 0 0 Q S 123 [(0, .ref v0), (1, .int v1), (2, .int v2), (3, .int v3), (4, .int v4), (5, .int v5), (6, .int v6), (7, .int v7)] [] := by
  refine k_iinc (v := v7 + 1) (lst' := [(7, .int (v7 + 1)), (0, .ref v0), (1, .int v1), (2, .int v2), (3, .int v3), (4, .int v4), (5, .int v5), (6, .int v6)]) B 7 rfl rfl (by decide) rfl dX13_improve_123 ?_
  refine k_goto (tgt := 56) B dX13_improve_126 (by decide) ?_
  refine k_sub [1, 2, 3, 4, 5, 6, 7, 0] rfl ?_
  exact kk
theorem bX13_improve_129 (B : Bd p s m args meth c cX13_improve 9 (wsOf yX13_improve cX13_improve 9 (some .int)) RX13 w (some .int) "improve") {v0 : Nat} {v1 : Int32} {v2 : Int32} {v3 : Int32} {v4 : Int32} {v5 : Int32} {v6 : Int32} {Q : State → Prop}  (kk : K p l e rX13_improve s m args below meth c 9 w 0 0 Q S 36 [(0, .ref v0), (1, .int v1), (2, .int v2), (3, .int v3), (4, .int v4), (5, .int v5), (6, .int (v6 + 1))] []) : K p l e rX13_improve s m args below meth c 9 w 0 0 Q S 129 [(0, .ref v0), (1, .int v1), (2, .int v2), (3, .int v3), (4, .int v4), (5, .int v5), (6, .int v6)] [] := by
  refine k_iinc (v := v6 + 1) (lst' := [(6, .int (v6 + 1)), (0, .ref v0), (1, .int v1), (2, .int v2), (3, .int v3), (4, .int v4), (5, .int v5)]) B 6 rfl rfl (by decide) rfl dX13_improve_129 ?_
  refine k_goto (tgt := 36) B dX13_improve_132 (by decide) ?_
  refine k_sub [1, 2, 3, 4, 5, 6, 0] rfl ?_
  exact kk
theorem bX13_improve_135 (B : Bd p s m args meth c cX13_improve 9 (wsOf yX13_improve cX13_improve 9 (some .int)) RX13 w (some .int) "improve") {v0 : Nat} {v1 : Int32} {v2 : Int32} {v3 : Int32} {v4 : Int32} {v5 : Int32} {Q : State → Prop}  (kt : ¬ v4 = (-1) → K p l e rX13_improve s m args below meth c 9 w 0 0 Q S 143 [(0, .ref v0), (1, .int v1), (2, .int v2), (3, .int v3), (4, .int v4), (5, .int v5)] []) (kf : v4 = (-1) → K p l e rX13_improve s m args below meth c 9 w 0 0 Q S 141 [] []) : K p l e rX13_improve s m args below meth c 9 w 0 0 Q S 135 [(0, .ref v0), (1, .int v1), (2, .int v2), (3, .int v3), (4, .int v4), (5, .int v5)] [] := by
  refine k_iload B 4 rfl dX13_improve_135 ?_
  refine k_iconst (v := (-1)) B (by decide) dX13_improve_137 ?_
  refine k_icmp_ne (tgt := 143) B dX13_improve_138 (by decide) (fun c => ?_) (fun c => ?_)
  · exact kt c
  · refine k_sub [] rfl ?_
    exact kf c
theorem bX13_improve_141 (B : Bd p s m args meth c cX13_improve 9 (wsOf yX13_improve cX13_improve 9 (some .int)) RX13 w (some .int) "improve") {post : Int32 → St → Prop}  (hq : post 0 S) : K p l e rX13_improve s m args below meth c 9 w 0 0 (MQ below (va_Qi post (fun S' t => Hd w S' t.heap) (wA w)) args s 0 0 (wA w)) S 141 [] [] := by
  refine k_iconst (v := 0) B (by decide) dX13_improve_141 ?_
  exact ret_I B rfl dX13_improve_142 (hq)
theorem bX13_improve_143 (B : Bd p s m args meth c cX13_improve 9 (wsOf yX13_improve cX13_improve 9 (some .int)) RX13 w (some .int) "improve") {v0 : Nat} {v1 : Int32} {v2 : Int32} {v3 : Int32} {v4 : Int32} {v5 : Int32} {post : St → Prop} {Q : State → Prop} (hc : ConV l yX13_look (wsOf yX13_look cX13_look 2 none) rX13_look w S [.ref v0, .int v1] post) (h1 : kd S v0 = 15) (kk : ∀ (S' : St), post S' → K p l e rX13_improve s m args below meth c 9 w 0 0 Q S' 148 [(0, .ref v0), (1, .int v1), (2, .int v2), (3, .int v3), (4, .int v4), (5, .int v5)] []) : K p l e rX13_improve s m args below meth c 9 w 0 0 Q S 143 [(0, .ref v0), (1, .int v1), (2, .int v2), (3, .int v3), (4, .int v4), (5, .int v5)] [] := by
  refine k_aload_n B 0 rfl rfl dX13_improve_143 ?_
  refine k_iload_n B 1 rfl rfl dX13_improve_144 ?_
  refine callV_V (st := []) B [.int v1] (hc) (cwV 1 B.1.2.2.2.2 (gV qlRX13_203 qiX13_look qeX13_look qzRX13 qcX13_look) rfl rfl rfl (by decide +kernel) ⟨Nat.le_of_ble_eq_true rfl, Nat.le_of_ble_eq_true rfl⟩) rfl rfl (by decide) h1 (Nat.le_of_ble_eq_true rfl) rfl dX13_improve_145 ⟨Nat.le_of_ble_eq_true rfl, Nat.le_of_ble_eq_true rfl⟩ (fun S' hp => ?_)
  exact kk S' hp
theorem bX13_improve_148 (B : Bd p s m args meth c cX13_improve 9 (wsOf yX13_improve cX13_improve 9 (some .int)) RX13 w (some .int) "improve") {v0 : Nat} {v1 : Int32} {v2 : Int32} {v3 : Int32} {v4 : Int32} {v5 : Int32} {post : St → Prop} {Q : State → Prop} (hc : ConV l yX13_turn (wsOf yX13_turn cX13_turn 6 none) rX13_turn w S [.ref v0, .int v4, .int v5] post) (h1 : kd S v0 = 15) (kk : ∀ (S' : St), post S' → K p l e rX13_improve s m args below meth c 9 w 0 0 Q S' 156 [(0, .ref v0), (1, .int v1), (2, .int v2), (3, .int v3)] []) : K p l e rX13_improve s m args below meth c 9 w 0 0 Q S 148 [(0, .ref v0), (1, .int v1), (2, .int v2), (3, .int v3), (4, .int v4), (5, .int v5)] [] := by
  refine k_aload_n B 0 rfl rfl dX13_improve_148 ?_
  refine k_iload B 4 rfl dX13_improve_149 ?_
  refine k_iload B 5 rfl dX13_improve_151 ?_
  refine callV_V (st := []) B [.int v4, .int v5] (hc) (cwV 2 B.1.2.2.2.2 (gV qlRX13_243 qiX13_turn qeX13_turn qzRX13 qcX13_turn) rfl rfl rfl (by decide +kernel) ⟨Nat.le_of_ble_eq_true rfl, Nat.le_of_ble_eq_true rfl⟩) rfl rfl (by decide) h1 (Nat.le_of_ble_eq_true rfl) rfl dX13_improve_153 ⟨Nat.le_of_ble_eq_true rfl, Nat.le_of_ble_eq_true rfl⟩ (fun S' hp => ?_)
  refine k_sub [0, 1, 2, 3] rfl ?_
  exact kk S' hp
theorem bX13_improve_156 (B : Bd p s m args meth c cX13_improve 9 (wsOf yX13_improve cX13_improve 9 (some .int)) RX13 w (some .int) "improve") {v0 : Nat} {v1 : Int32} {v2 : Int32} {v3 : Int32} {post : St → Prop} {Q : State → Prop} (hc : ConV l yX13_keep (wsOf yX13_keep cX13_keep 2 none) rX13_keep w S [.ref v0, .int v1] post) (h1 : kd S v0 = 15) (kk : ∀ (S' : St), post S' → K p l e rX13_improve s m args below meth c 9 w 0 0 Q S' 161 [(2, .int v2), (3, .int v3)] []) : K p l e rX13_improve s m args below meth c 9 w 0 0 Q S 156 [(0, .ref v0), (1, .int v1), (2, .int v2), (3, .int v3)] [] := by
  refine k_aload_n B 0 rfl rfl dX13_improve_156 ?_
  refine k_iload_n B 1 rfl rfl dX13_improve_157 ?_
  refine callV_V (st := []) B [.int v1] (hc) (cwV 1 B.1.2.2.2.2 (gV qlRX13_228 qiX13_keep qeX13_keep qzRX13 qcX13_keep) rfl rfl rfl (by decide +kernel) ⟨Nat.le_of_ble_eq_true rfl, Nat.le_of_ble_eq_true rfl⟩) rfl rfl (by decide) h1 (Nat.le_of_ble_eq_true rfl) rfl dX13_improve_158 ⟨Nat.le_of_ble_eq_true rfl, Nat.le_of_ble_eq_true rfl⟩ (fun S' hp => ?_)
  refine k_sub [2, 3] rfl ?_
  exact kk S' hp
theorem bX13_improve_161 (B : Bd p s m args meth c cX13_improve 9 (wsOf yX13_improve cX13_improve 9 (some .int)) RX13 w (some .int) "improve") {v2 : Int32} {v3 : Int32} {post : Int32 → St → Prop}  (hq : post (v2 - v3) S) : K p l e rX13_improve s m args below meth c 9 w 0 0 (MQ below (va_Qi post (fun S' t => Hd w S' t.heap) (wA w)) args s 0 0 (wA w)) S 161 [(2, .int v2), (3, .int v3)] [] := by
  refine k_iload_n B 0 rfl rfl dX13_improve_161 ?_
  refine k_iload_n B 1 rfl rfl dX13_improve_162 ?_
  refine k_isub B dX13_improve_163 ?_
  exact ret_I B rfl dX13_improve_164 (hq)
theorem bX13_placeOf_0 (B : Bd p s m args meth c cX13_placeOf 4 (wsOf yX13_placeOf cX13_placeOf 4 (some .int)) RX13 w (some .int) "placeOf") {v0 : Nat} {v1 : Int32} {v2 : Int32} {Q : State → Prop}  (kk : K p l e rX13_placeOf s m args below meth c 4 w 0 0 Q S 2 [(0, .ref v0), (1, .int v1), (2, .int v2), (3, .int 0)] []) : K p l e rX13_placeOf s m args below meth c 4 w 0 0 Q S 0 [(0, .ref v0), (1, .int v1), (2, .int v2)] [] := by
  refine k_iconst (v := 0) B (by decide) dX13_placeOf_0 ?_
  refine k_istore_n (lst' := [(3, .int 0), (0, .ref v0), (1, .int v1), (2, .int v2)]) B rfl (by decide) rfl dX13_placeOf_1 ?_
  refine k_sub [1, 2, 3, 0] rfl ?_
  exact kk
theorem bX13_placeOf_2 (B : Bd p s m args meth c cX13_placeOf 4 (wsOf yX13_placeOf cX13_placeOf 4 (some .int)) RX13 w (some .int) "placeOf") {v0 : Nat} {v1 : Int32} {v2 : Int32} {v3 : Int32} {x1 : Nat} {x2 : Nat} {Q : State → Prop} (h1 : kd S v0 = 15) (h2 : gP S 919 v0 = some x1) (h3 : kd S x1 = 14) (h4 : gP S 841 x1 = some x2) (h5 : kd S x2 = 21) (h6 : vp_in ((12 * v2) + v3) (ln S x2)) (kt : ((rI S x2) ((12 * v2) + v3).toNatClampNeg) = v1 → K p l e rX13_placeOf s m args below meth c 4 w 0 0 Q S 26 [(3, .int v3)] []) (kf : ¬ ((rI S x2) ((12 * v2) + v3).toNatClampNeg) = v1 → K p l e rX13_placeOf s m args below meth c 4 w 0 0 Q S 20 [(0, .ref v0), (1, .int v1), (2, .int v2), (3, .int v3)] []) : K p l e rX13_placeOf s m args below meth c 4 w 0 0 Q S 2 [(0, .ref v0), (1, .int v1), (2, .int v2), (3, .int v3)] [] := by
  refine k_aload_n B 0 rfl rfl dX13_placeOf_2 ?_
  refine k_getP (f := 919) (r := gP S 919 v0) B 14 23 rfl (by decide) rfl (by decide) rfl rfl (fun w h => in_of (uw_14 w h)) (in_of qfRX13_70) dX13_placeOf_3 h1 rfl ?_
  rw [h2]; change K _ _ _ _ _ _ _ _ _ _ _ _ _ _ _ _ _ _ (.ref x1 :: _)
  refine k_getPN (f := 841) (r := gP S 841 x1) B 13 9 rfl (by decide) rfl (by decide) rfl rfl (fun w h => in_of (uw_13 w h)) "LastMileModel" (nzF_6 B.2.2.2.1.2.2.2.1) dX13_placeOf_6 h3 rfl ?_
  rw [h4]; change K _ _ _ _ _ _ _ _ _ _ _ _ _ _ _ _ _ _ (.ref x2 :: _)
  refine k_bipush (v := 12) B (by decide) dX13_placeOf_9 ?_
  refine k_iload_n B 2 rfl rfl dX13_placeOf_11 ?_
  refine k_imul B dX13_placeOf_12 ?_
  refine k_iload_n B 3 rfl rfl dX13_placeOf_13 ?_
  refine k_iadd B dX13_placeOf_14 ?_
  refine k_iald (v := (rI S x2) ((12 * v2) + v3).toNatClampNeg) B dX13_placeOf_15 h5 h6 rfl ?_
  refine k_iload_n B 1 rfl rfl dX13_placeOf_16 ?_
  refine k_icmp_eq (tgt := 26) B dX13_placeOf_17 (by decide) (fun c => ?_) (fun c => ?_)
  · refine k_sub [3] rfl ?_
    exact kt c
  · exact kf c
theorem bX13_placeOf_20 (B : Bd p s m args meth c cX13_placeOf 4 (wsOf yX13_placeOf cX13_placeOf 4 (some .int)) RX13 w (some .int) "placeOf") {v0 : Nat} {v1 : Int32} {v2 : Int32} {v3 : Int32} {Q : State → Prop}  (kk : K p l e rX13_placeOf s m args below meth c 4 w 0 0 Q S 2 [(0, .ref v0), (1, .int v1), (2, .int v2), (3, .int (v3 + 1))] []) : K p l e rX13_placeOf s m args below meth c 4 w 0 0 Q S 20 [(0, .ref v0), (1, .int v1), (2, .int v2), (3, .int v3)] [] := by
  refine k_iinc (v := v3 + 1) (lst' := [(3, .int (v3 + 1)), (0, .ref v0), (1, .int v1), (2, .int v2)]) B 3 rfl rfl (by decide) rfl dX13_placeOf_20 ?_
  refine k_goto (tgt := 2) B dX13_placeOf_23 (by decide) ?_
  refine k_sub [1, 2, 3, 0] rfl ?_
  exact kk
theorem bX13_placeOf_26 (B : Bd p s m args meth c cX13_placeOf 4 (wsOf yX13_placeOf cX13_placeOf 4 (some .int)) RX13 w (some .int) "placeOf") {v3 : Int32} {post : Int32 → St → Prop}  (hq : post v3 S) : K p l e rX13_placeOf s m args below meth c 4 w 0 0 (MQ below (va_Qi post (fun S' t => Hd w S' t.heap) (wA w)) args s 0 0 (wA w)) S 26 [(3, .int v3)] [] := by
  refine k_iload_n B 0 rfl rfl dX13_placeOf_26 ?_
  exact ret_I B rfl dX13_placeOf_27 (hq)
theorem bX13_moved_0 (B : Bd p s m args meth c cX13_moved 8 (wsOf yX13_moved cX13_moved 8 (some .int)) RX13 w (some .int) "moved") {v0 : Nat} {v1 : Int32} {v2 : Int32} {v3 : Int32} {v4 : Int32} {post : Int32 → St → Prop} {Q : State → Prop} (hc : ConI l yX13_routeCost (wsOf yX13_routeCost cX13_routeCost 2 (some .int)) rX13_routeCost w S [.ref v0, .int v2] post) (h1 : kd S v0 = 15) (kk : ∀ (r : Int32) (S' : St), post r S' → K p l e rX13_moved s m args below meth c 8 w 0 0 Q S' 5 [(0, .ref v0), (1, .int v1), (2, .int v2), (3, .int v3), (4, .int v4)] [.int r]) : K p l e rX13_moved s m args below meth c 8 w 0 0 Q S 0 [(0, .ref v0), (1, .int v1), (2, .int v2), (3, .int v3), (4, .int v4)] [] := by
  refine k_aload_n B 0 rfl rfl dX13_moved_0 ?_
  refine k_iload_n B 2 rfl rfl dX13_moved_1 ?_
  refine callV_I (st := []) B [.int v2] (hc) (cwV 1 B.1.2.2.2.2 (gV qlRX13_210 qiX13_routeCost qeX13_routeCost qzRX13 qcX13_routeCost) rfl rfl rfl (by decide +kernel) ⟨Nat.le_of_ble_eq_true rfl, Nat.le_of_ble_eq_true rfl⟩) rfl rfl (by decide) h1 (Nat.le_of_ble_eq_true rfl) rfl dX13_moved_2 ⟨Nat.le_of_ble_eq_true rfl, Nat.le_of_ble_eq_true rfl⟩ (fun r S' hp => ?_)
  exact kk r S' hp
theorem bX13_moved_5 (B : Bd p s m args meth c cX13_moved 8 (wsOf yX13_moved cX13_moved 8 (some .int)) RX13 w (some .int) "moved") {v0 : Nat} {v1 : Int32} {v2 : Int32} {v3 : Int32} {v4 : Int32} {t0 : Int32} {post : Int32 → St → Prop} {Q : State → Prop} (hc : ConI l yX13_placeOf (wsOf yX13_placeOf cX13_placeOf 4 (some .int)) rX13_placeOf w S [.ref v0, .int v1, .int v2] post) (h1 : kd S v0 = 15) (kk : ∀ (r : Int32) (S' : St), post r S' → K p l e rX13_moved s m args below meth c 8 w 0 0 Q S' 14 [(0, .ref v0), (1, .int v1), (2, .int v2), (3, .int v3), (4, .int v4), (5, .int t0)] [.int r, .ref v0]) : K p l e rX13_moved s m args below meth c 8 w 0 0 Q S 5 [(0, .ref v0), (1, .int v1), (2, .int v2), (3, .int v3), (4, .int v4)] [.int t0] := by
  refine k_istore (lst' := [(5, .int t0), (0, .ref v0), (1, .int v1), (2, .int v2), (3, .int v3), (4, .int v4)]) B (by decide) rfl dX13_moved_5 ?_
  refine k_aload_n B 1 rfl rfl dX13_moved_7 ?_
  refine k_aload_n B 1 rfl rfl dX13_moved_8 ?_
  refine k_iload_n B 2 rfl rfl dX13_moved_9 ?_
  refine k_iload_n B 3 rfl rfl dX13_moved_10 ?_
  refine callV_I (st := [.ref v0]) B [.int v1, .int v2] (hc) (cwV 2 B.1.2.2.2.2 (gV qlRX13_246 qiX13_placeOf qeX13_placeOf qzRX13 qcX13_placeOf) rfl rfl rfl (by decide +kernel) ⟨Nat.le_of_ble_eq_true rfl, Nat.le_of_ble_eq_true rfl⟩) rfl rfl (by decide) h1 (Nat.le_of_ble_eq_true rfl) rfl dX13_moved_11 ⟨Nat.le_of_ble_eq_true rfl, Nat.le_of_ble_eq_true rfl⟩ (fun r S' hp => ?_)
  refine k_sub [1, 2, 3, 4, 5, 0] rfl ?_
  exact kk r S' hp
theorem bX13_moved_14 (B : Bd p s m args meth c cX13_moved 8 (wsOf yX13_moved cX13_moved 8 (some .int)) RX13 w (some .int) "moved") {v0 : Nat} {v1 : Int32} {v2 : Int32} {v3 : Int32} {v4 : Int32} {v5 : Int32} {t0 : Nat} {t1 : Int32} {post : St → Prop} {Q : State → Prop} (hc : ConV l yX13_remove (wsOf yX13_remove cX13_remove 2 none) rX13_remove w S [.ref t0, .int t1] post) (h1 : kd S t0 = 15) (kk : ∀ (S' : St), post S' → K p l e rX13_moved s m args below meth c 8 w 0 0 Q S' 17 [(0, .ref v0), (1, .int v1), (2, .int v2), (3, .int v3), (4, .int v4), (5, .int v5)] []) : K p l e rX13_moved s m args below meth c 8 w 0 0 Q S 14 [(0, .ref v0), (1, .int v1), (2, .int v2), (3, .int v3), (4, .int v4), (5, .int v5)] [.int t1, .ref t0] := by
  refine callV_V (st := []) B [.int t1] (hc) (cwV 1 B.1.2.2.2.2 (gV qlRX13_231 qiX13_remove qeX13_remove qzRX13 qcX13_remove) rfl rfl rfl (by decide +kernel) ⟨Nat.le_of_ble_eq_true rfl, Nat.le_of_ble_eq_true rfl⟩) rfl rfl (by decide) h1 (Nat.le_of_ble_eq_true rfl) rfl dX13_moved_14 ⟨Nat.le_of_ble_eq_true rfl, Nat.le_of_ble_eq_true rfl⟩ (fun S' hp => ?_)
  exact kk S' hp
theorem bX13_moved_17 (B : Bd p s m args meth c cX13_moved 8 (wsOf yX13_moved cX13_moved 8 (some .int)) RX13 w (some .int) "moved") {v0 : Nat} {v1 : Int32} {v2 : Int32} {v3 : Int32} {v4 : Int32} {v5 : Int32} {Q : State → Prop}  (kt : v3 = v2 → K p l e rX13_moved s m args below meth c 8 w 0 0 Q S 59 [(0, .ref v0), (1, .int v1), (2, .int v2), (4, .int v4), (5, .int v5)] []) (kf : ¬ v3 = v2 → K p l e rX13_moved s m args below meth c 8 w 0 0 Q S 22 [(0, .ref v0), (1, .int v1), (2, .int v2), (3, .int v3), (4, .int v4), (5, .int v5)] []) : K p l e rX13_moved s m args below meth c 8 w 0 0 Q S 17 [(0, .ref v0), (1, .int v1), (2, .int v2), (3, .int v3), (4, .int v4), (5, .int v5)] [] := by
  refine k_iload_n B 3 rfl rfl dX13_moved_17 ?_
  refine k_iload_n B 2 rfl rfl dX13_moved_18 ?_
  refine k_icmp_eq (tgt := 59) B dX13_moved_19 (by decide) (fun c => ?_) (fun c => ?_)
  · refine k_sub [0, 1, 2, 4, 5] rfl ?_
    exact kt c
  · exact kf c
theorem bX13_moved_22 (B : Bd p s m args meth c cX13_moved 8 (wsOf yX13_moved cX13_moved 8 (some .int)) RX13 w (some .int) "moved") {v0 : Nat} {v1 : Int32} {v2 : Int32} {v3 : Int32} {v4 : Int32} {v5 : Int32} {post : Int32 → St → Prop} {Q : State → Prop} (hc : ConI l yX13_cost (wsOf yX13_cost cX13_cost 14 (some .int)) rX13_cost w S [.ref v0, .int v2] post) (h1 : kd S v0 = 15) (kk : ∀ (r : Int32) (S' : St), post r S' → K p l e rX13_moved s m args below meth c 8 w 0 0 Q S' 29 [(0, .ref v0), (1, .int v1), (3, .int v3), (4, .int v4)] [.int r, .int v5]) : K p l e rX13_moved s m args below meth c 8 w 0 0 Q S 22 [(0, .ref v0), (1, .int v1), (2, .int v2), (3, .int v3), (4, .int v4), (5, .int v5)] [] := by
  refine k_iload B 5 rfl dX13_moved_22 ?_
  refine k_aload_n B 0 rfl rfl dX13_moved_24 ?_
  refine k_iload_n B 2 rfl rfl dX13_moved_25 ?_
  refine callV_I (st := [.int v5]) B [.int v2] (hc) (cwV 1 B.1.2.2.2.2 (gV qlRX13_207 qiX13_cost qeX13_cost qzRX13 qcX13_cost) rfl rfl rfl (by decide +kernel) ⟨Nat.le_of_ble_eq_true rfl, Nat.le_of_ble_eq_true rfl⟩) rfl rfl (by decide) h1 (Nat.le_of_ble_eq_true rfl) rfl dX13_moved_26 ⟨Nat.le_of_ble_eq_true rfl, Nat.le_of_ble_eq_true rfl⟩ (fun r S' hp => ?_)
  refine k_sub [0, 1, 3, 4] rfl ?_
  exact kk r S' hp
theorem bX13_moved_29 (B : Bd p s m args meth c cX13_moved 8 (wsOf yX13_moved cX13_moved 8 (some .int)) RX13 w (some .int) "moved") {v0 : Nat} {v1 : Int32} {v3 : Int32} {v4 : Int32} {t0 : Int32} {t1 : Int32} {post : Int32 → St → Prop} {Q : State → Prop} (hc : ConI l yX13_more (wsOf yX13_more cX13_more 6 (some .int)) rX13_more w S [.ref v0, .int v1, .int v3, .int v4] post) (h1 : kd S v0 = 15) (kk : ∀ (r : Int32) (S' : St), post r S' → K p l e rX13_moved s m args below meth c 8 w 0 0 Q S' 40 [(6, .int (t0 - t1))] [.int r]) : K p l e rX13_moved s m args below meth c 8 w 0 0 Q S 29 [(0, .ref v0), (1, .int v1), (3, .int v3), (4, .int v4)] [.int t1, .int t0] := by
  refine k_isub B dX13_moved_29 ?_
  refine k_istore (lst' := [(6, .int (t0 - t1)), (0, .ref v0), (1, .int v1), (3, .int v3), (4, .int v4)]) B (by decide) rfl dX13_moved_30 ?_
  refine k_aload_n B 1 rfl rfl dX13_moved_32 ?_
  refine k_iload_n B 2 rfl rfl dX13_moved_33 ?_
  refine k_iload_n B 3 rfl rfl dX13_moved_34 ?_
  refine k_iload B 4 rfl dX13_moved_35 ?_
  refine callV_I (st := []) B [.int v1, .int v3, .int v4] (hc) (cwV 3 B.1.2.2.2.2 (gV qlRX13_224 qiX13_more qeX13_more qzRX13 qcX13_more) rfl rfl rfl (by decide +kernel) ⟨Nat.le_of_ble_eq_true rfl, Nat.le_of_ble_eq_true rfl⟩) rfl rfl (by decide) h1 (Nat.le_of_ble_eq_true rfl) rfl dX13_moved_37 ⟨Nat.le_of_ble_eq_true rfl, Nat.le_of_ble_eq_true rfl⟩ (fun r S' hp => ?_)
  refine k_sub [0] rfl ?_
  exact kk r S' hp
theorem bX13_moved_40 (B : Bd p s m args meth c cX13_moved 8 (wsOf yX13_moved cX13_moved 8 (some .int)) RX13 w (some .int) "moved") {v6 : Int32} {t0 : Int32} {Q : State → Prop}  (kt : ¬ t0 = 1000000 → K p l e rX13_moved s m args below meth c 8 w 0 0 Q S 53 [(6, .int v6), (7, .int t0)] []) (kf : t0 = 1000000 → K p l e rX13_moved s m args below meth c 8 w 0 0 Q S 49 [] []) : K p l e rX13_moved s m args below meth c 8 w 0 0 Q S 40 [(6, .int v6)] [.int t0] := by
  refine k_istore (lst' := [(7, .int t0), (6, .int v6)]) B (by decide) rfl dX13_moved_40 ?_
  refine k_iload B 0 rfl dX13_moved_42 ?_
  refine k_ldc (v := 1000000) B (in_of qtRX13_217) dX13_moved_44 ?_
  refine k_icmp_ne (tgt := 53) B dX13_moved_46 (by decide) (fun c => ?_) (fun c => ?_)
  · refine k_sub [1, 0] rfl ?_
    exact kt c
  · refine k_sub [] rfl ?_
    exact kf c
theorem bX13_moved_49 (B : Bd p s m args meth c cX13_moved 8 (wsOf yX13_moved cX13_moved 8 (some .int)) RX13 w (some .int) "moved") {Q : State → Prop}  (kk : K p l e rX13_moved s m args below meth c 8 w 0 0 Q S 58 [] [.int (-1)]) : K p l e rX13_moved s m args below meth c 8 w 0 0 Q S 49 [] [] := by
  refine k_iconst (v := (-1)) B (by decide) dX13_moved_49 ?_
  refine k_goto (tgt := 58) B dX13_moved_50 (by decide) ?_
  exact kk
theorem bX13_moved_53 (B : Bd p s m args meth c cX13_moved 8 (wsOf yX13_moved cX13_moved 8 (some .int)) RX13 w (some .int) "moved") {v6 : Int32} {v7 : Int32} {Q : State → Prop}  (kk : K p l e rX13_moved s m args below meth c 8 w 0 0 Q S 58 [] [.int (v6 - v7)]) : K p l e rX13_moved s m args below meth c 8 w 0 0 Q S 53 [(6, .int v6), (7, .int v7)] [] := by
  refine k_iload B 0 rfl dX13_moved_53 ?_
  refine k_iload B 1 rfl dX13_moved_55 ?_
  refine k_isub B dX13_moved_57 ?_
  refine k_sub [] rfl ?_
  exact kk
theorem bX13_moved_58 (B : Bd p s m args meth c cX13_moved 8 (wsOf yX13_moved cX13_moved 8 (some .int)) RX13 w (some .int) "moved") {t0 : Int32} {post : Int32 → St → Prop}  (hq : post t0 S) : K p l e rX13_moved s m args below meth c 8 w 0 0 (MQ below (va_Qi post (fun S' t => Hd w S' t.heap) (wA w)) args s 0 0 (wA w)) S 58 [] [.int t0] := by
  exact ret_I B rfl dX13_moved_58 (hq)
theorem bX13_moved_59 (B : Bd p s m args meth c cX13_moved 8 (wsOf yX13_moved cX13_moved 8 (some .int)) RX13 w (some .int) "moved") {v0 : Nat} {v1 : Int32} {v2 : Int32} {v4 : Int32} {v5 : Int32} {post : St → Prop} {Q : State → Prop} (hc : ConV l yX13_insert (wsOf yX13_insert cX13_insert 3 none) rX13_insert w S [.ref v0, .int v1, .int v4] post) (h1 : kd S v0 = 15) (kk : ∀ (S' : St), post S' → K p l e rX13_moved s m args below meth c 8 w 0 0 Q S' 66 [(0, .ref v0), (2, .int v2), (5, .int v5)] []) : K p l e rX13_moved s m args below meth c 8 w 0 0 Q S 59 [(0, .ref v0), (1, .int v1), (2, .int v2), (4, .int v4), (5, .int v5)] [] := by
  refine k_aload_n B 0 rfl rfl dX13_moved_59 ?_
  refine k_iload_n B 1 rfl rfl dX13_moved_60 ?_
  refine k_iload B 3 rfl dX13_moved_61 ?_
  refine callV_V (st := []) B [.int v1, .int v4] (hc) (cwV 2 B.1.2.2.2.2 (gV qlRX13_213 qiX13_insert qeX13_insert qzRX13 qcX13_insert) rfl rfl rfl (by decide +kernel) ⟨Nat.le_of_ble_eq_true rfl, Nat.le_of_ble_eq_true rfl⟩) rfl rfl (by decide) h1 (Nat.le_of_ble_eq_true rfl) rfl dX13_moved_63 ⟨Nat.le_of_ble_eq_true rfl, Nat.le_of_ble_eq_true rfl⟩ (fun S' hp => ?_)
  refine k_sub [0, 2, 4] rfl ?_
  exact kk S' hp
theorem bX13_moved_66 (B : Bd p s m args meth c cX13_moved 8 (wsOf yX13_moved cX13_moved 8 (some .int)) RX13 w (some .int) "moved") {v0 : Nat} {v2 : Int32} {v5 : Int32} {post : Int32 → St → Prop} {Q : State → Prop} (hc : ConI l yX13_cost (wsOf yX13_cost cX13_cost 14 (some .int)) rX13_cost w S [.ref v0, .int v2] post) (h1 : kd S v0 = 15) (kk : ∀ (r : Int32) (S' : St), post r S' → K p l e rX13_moved s m args below meth c 8 w 0 0 Q S' 71 [(0, .ref v0), (2, .int v2), (5, .int v5)] [.int r]) : K p l e rX13_moved s m args below meth c 8 w 0 0 Q S 66 [(0, .ref v0), (2, .int v2), (5, .int v5)] [] := by
  refine k_aload_n B 0 rfl rfl dX13_moved_66 ?_
  refine k_iload_n B 1 rfl rfl dX13_moved_67 ?_
  refine callV_I (st := []) B [.int v2] (hc) (cwV 1 B.1.2.2.2.2 (gV qlRX13_207 qiX13_cost qeX13_cost qzRX13 qcX13_cost) rfl rfl rfl (by decide +kernel) ⟨Nat.le_of_ble_eq_true rfl, Nat.le_of_ble_eq_true rfl⟩) rfl rfl (by decide) h1 (Nat.le_of_ble_eq_true rfl) rfl dX13_moved_68 ⟨Nat.le_of_ble_eq_true rfl, Nat.le_of_ble_eq_true rfl⟩ (fun r S' hp => ?_)
  exact kk r S' hp
theorem bX13_moved_71 (B : Bd p s m args meth c cX13_moved 8 (wsOf yX13_moved cX13_moved 8 (some .int)) RX13 w (some .int) "moved") {v0 : Nat} {v2 : Int32} {v5 : Int32} {t0 : Int32} {x1 : Nat} {Q : State → Prop} (h1 : kd S v0 = 15) (h2 : gP S 910 v0 = some x1) (h3 : kd S x1 = 21) (h4 : vp_in v2 (ln S x1)) (kt : (gI S 930 v0) ≤ ((rI S x1) v2.toNatClampNeg) → K p l e rX13_moved s m args below meth c 8 w 0 0 Q S 90 [(5, .int v5), (6, .int t0)] []) (kf : ¬ (gI S 930 v0) ≤ ((rI S x1) v2.toNatClampNeg) → K p l e rX13_moved s m args below meth c 8 w 0 0 Q S 86 [] []) : K p l e rX13_moved s m args below meth c 8 w 0 0 Q S 71 [(0, .ref v0), (2, .int v2), (5, .int v5)] [.int t0] := by
  refine k_istore (lst' := [(6, .int t0), (0, .ref v0), (2, .int v2), (5, .int v5)]) B (by decide) rfl dX13_moved_71 ?_
  refine k_aload_n B 1 rfl rfl dX13_moved_73 ?_
  refine k_getI (f := 930) (v := gI S 930 v0) B 14 34 rfl (by decide) rfl (by decide) rfl rfl (fun w h => in_of (uw_14 w h)) (in_of qfRX13_187) dX13_moved_74 h1 rfl ?_
  refine k_aload_n B 1 rfl rfl dX13_moved_77 ?_
  refine k_getP (f := 910) (r := gP S 910 v0) B 14 14 rfl (by decide) rfl (by decide) rfl rfl (fun w h => in_of (uw_14 w h)) (in_of qfRX13_41) dX13_moved_78 h1 rfl ?_
  rw [h2]; change K _ _ _ _ _ _ _ _ _ _ _ _ _ _ _ _ _ _ (.ref x1 :: _)
  refine k_iload_n B 2 rfl rfl dX13_moved_81 ?_
  refine k_iald (v := (rI S x1) v2.toNatClampNeg) B dX13_moved_82 h3 h4 rfl ?_
  refine k_icmp_le (tgt := 90) B dX13_moved_83 (by decide) (fun c => ?_) (fun c => ?_)
  · refine k_sub [3, 0] rfl ?_
    exact kt c
  · refine k_sub [] rfl ?_
    exact kf c
theorem bX13_moved_86 (B : Bd p s m args meth c cX13_moved 8 (wsOf yX13_moved cX13_moved 8 (some .int)) RX13 w (some .int) "moved") {Q : State → Prop}  (kk : K p l e rX13_moved s m args below meth c 8 w 0 0 Q S 95 [] [.int (-1)]) : K p l e rX13_moved s m args below meth c 8 w 0 0 Q S 86 [] [] := by
  refine k_iconst (v := (-1)) B (by decide) dX13_moved_86 ?_
  refine k_goto (tgt := 95) B dX13_moved_87 (by decide) ?_
  exact kk
theorem bX13_moved_90 (B : Bd p s m args meth c cX13_moved 8 (wsOf yX13_moved cX13_moved 8 (some .int)) RX13 w (some .int) "moved") {v5 : Int32} {v6 : Int32} {Q : State → Prop}  (kk : K p l e rX13_moved s m args below meth c 8 w 0 0 Q S 95 [] [.int (v5 - v6)]) : K p l e rX13_moved s m args below meth c 8 w 0 0 Q S 90 [(5, .int v5), (6, .int v6)] [] := by
  refine k_iload B 0 rfl dX13_moved_90 ?_
  refine k_iload B 1 rfl dX13_moved_92 ?_
  refine k_isub B dX13_moved_94 ?_
  refine k_sub [] rfl ?_
  exact kk
theorem bX13_moved_95 (B : Bd p s m args meth c cX13_moved 8 (wsOf yX13_moved cX13_moved 8 (some .int)) RX13 w (some .int) "moved") {t0 : Int32} {post : Int32 → St → Prop}  (hq : post t0 S) : K p l e rX13_moved s m args below meth c 8 w 0 0 (MQ below (va_Qi post (fun S' t => Hd w S' t.heap) (wA w)) args s 0 0 (wA w)) S 95 [] [.int t0] := by
  exact ret_I B rfl dX13_moved_95 (hq)
theorem bX13_move_0 (B : Bd p s m args meth c cX13_move 9 (wsOf yX13_move cX13_move 9 (some .int)) RX13 w (some .int) "move") {v0 : Nat} {Q : State → Prop} (h1 : kd S v0 = 15) (kk : K p l e rX13_move s m args below meth c 9 w 0 0 Q (sI S 896 v0 0) 14 [(0, .ref v0), (1, .int 0), (2, .int (-1)), (3, .int (-1)), (4, .int 0)] []) : K p l e rX13_move s m args below meth c 9 w 0 0 Q S 0 [(0, .ref v0)] [] := by
  refine k_aload_n B 0 rfl rfl dX13_move_0 ?_
  refine k_iconst (v := 0) B (by decide) dX13_move_1 ?_
  refine k_putI (f := 896) B 14 0 rfl (by decide) rfl (by decide) rfl rfl (fun w h => in_of (uw_14 w h)) (in_of qfRX13_95) tyX13 tyX13_ok nmX13 rfl (tyX13_ok 0 (by decide)) dX13_move_2 h1 ?_
  refine k_iconst (v := 0) B (by decide) dX13_move_5 ?_
  refine k_istore_n (lst' := [(1, .int 0), (0, .ref v0)]) B rfl (by decide) rfl dX13_move_6 ?_
  refine k_iconst (v := (-1)) B (by decide) dX13_move_7 ?_
  refine k_istore_n (lst' := [(2, .int (-1)), (1, .int 0), (0, .ref v0)]) B rfl (by decide) rfl dX13_move_8 ?_
  refine k_iconst (v := (-1)) B (by decide) dX13_move_9 ?_
  refine k_istore_n (lst' := [(3, .int (-1)), (2, .int (-1)), (1, .int 0), (0, .ref v0)]) B rfl (by decide) rfl dX13_move_10 ?_
  refine k_iconst (v := 0) B (by decide) dX13_move_11 ?_
  refine k_istore (lst' := [(4, .int 0), (3, .int (-1)), (2, .int (-1)), (1, .int 0), (0, .ref v0)]) B (by decide) rfl dX13_move_12 ?_
  refine k_sub [4, 3, 2, 1, 0] rfl ?_
  exact kk
theorem bX13_move_14 (B : Bd p s m args meth c cX13_move 9 (wsOf yX13_move cX13_move 9 (some .int)) RX13 w (some .int) "move") {v0 : Nat} {v1 : Int32} {v2 : Int32} {v3 : Int32} {v4 : Int32} {Q : State → Prop} (h1 : kd S v0 = 15) (kt : (gI S 913 v0) ≤ v4 → K p l e rX13_move s m args below meth c 9 w 0 0 Q S 139 [(0, .ref v0), (1, .int v1), (2, .int v2), (3, .int v3)] []) (kf : ¬ (gI S 913 v0) ≤ v4 → K p l e rX13_move s m args below meth c 9 w 0 0 Q S 23 [(0, .ref v0), (1, .int v1), (2, .int v2), (3, .int v3), (4, .int v4)] []) : K p l e rX13_move s m args below meth c 9 w 0 0 Q S 14 [(0, .ref v0), (1, .int v1), (2, .int v2), (3, .int v3), (4, .int v4)] [] := by
  refine k_iload B 4 rfl dX13_move_14 ?_
  refine k_aload_n B 0 rfl rfl dX13_move_16 ?_
  refine k_getI (f := 913) (v := gI S 913 v0) B 14 17 rfl (by decide) rfl (by decide) rfl rfl (fun w h => in_of (uw_14 w h)) (in_of qfRX13_117) dX13_move_17 h1 rfl ?_
  refine k_icmp_ge (tgt := 139) B dX13_move_20 (by decide) (fun c => ?_) (fun c => ?_)
  · refine k_sub [0, 1, 2, 3] rfl ?_
    exact kt c
  · exact kf c
theorem bX13_move_23 (B : Bd p s m args meth c cX13_move 9 (wsOf yX13_move cX13_move 9 (some .int)) RX13 w (some .int) "move") {v0 : Nat} {v1 : Int32} {v2 : Int32} {v3 : Int32} {v4 : Int32} {x1 : Nat} {post : Int32 → St → Prop} {Q : State → Prop} (h1 : kd S v0 = 15) (h2 : gP S 919 v0 = some x1) (hc : ConI l yX12_vanOf (wsOf yX12_vanOf cX12_vanOf 4 (some .int)) rX12_vanOf w S [.ref x1, .int v4] post) (h3 : kd S x1 = 14) (kk : ∀ (r : Int32) (S' : St), post r S' → K p l e rX13_move s m args below meth c 9 w 0 0 Q S' 32 [(0, .ref v0), (1, .int v1), (2, .int v2), (3, .int v3), (4, .int v4)] [.int r]) : K p l e rX13_move s m args below meth c 9 w 0 0 Q S 23 [(0, .ref v0), (1, .int v1), (2, .int v2), (3, .int v3), (4, .int v4)] [] := by
  refine k_aload_n B 0 rfl rfl dX13_move_23 ?_
  refine k_getP (f := 919) (r := gP S 919 v0) B 14 23 rfl (by decide) rfl (by decide) rfl rfl (fun w h => in_of (uw_14 w h)) (in_of qfRX13_70) dX13_move_24 h1 rfl ?_
  rw [h2]; change K _ _ _ _ _ _ _ _ _ _ _ _ _ _ _ _ _ _ (.ref x1 :: _)
  refine k_iload B 4 rfl dX13_move_27 ?_
  refine callV_I (st := []) B [.int v4] (hc) (cwV 1 B.1.2.2.2.2 (gV qlRX13_160 qiX12_vanOf qeX12_vanOf qzRX12 qcX12_vanOf) rfl rfl rfl (by decide +kernel) ⟨Nat.le_of_ble_eq_true rfl, Nat.le_of_ble_eq_true rfl⟩) rfl rfl (by decide) h3 (Nat.le_of_ble_eq_true rfl) rfl dX13_move_29 ⟨Nat.le_of_ble_eq_true rfl, Nat.le_of_ble_eq_true rfl⟩ (fun r S' hp => ?_)
  exact kk r S' hp
theorem bX13_move_32 (B : Bd p s m args meth c cX13_move 9 (wsOf yX13_move cX13_move 9 (some .int)) RX13 w (some .int) "move") {v0 : Nat} {v1 : Int32} {v2 : Int32} {v3 : Int32} {v4 : Int32} {t0 : Int32} {Q : State → Prop}  (kk : K p l e rX13_move s m args below meth c 9 w 0 0 Q S 37 [(0, .ref v0), (1, .int v1), (2, .int v2), (3, .int v3), (4, .int v4), (5, .int t0), (6, .int 0)] []) : K p l e rX13_move s m args below meth c 9 w 0 0 Q S 32 [(0, .ref v0), (1, .int v1), (2, .int v2), (3, .int v3), (4, .int v4)] [.int t0] := by
  refine k_istore (lst' := [(5, .int t0), (0, .ref v0), (1, .int v1), (2, .int v2), (3, .int v3), (4, .int v4)]) B (by decide) rfl dX13_move_32 ?_
  refine k_iconst (v := 0) B (by decide) dX13_move_34 ?_
  refine k_istore (lst' := [(6, .int 0), (5, .int t0), (0, .ref v0), (1, .int v1), (2, .int v2), (3, .int v3), (4, .int v4)]) B (by decide) rfl dX13_move_35 ?_
  refine k_sub [2, 3, 4, 5, 6, 1, 0] rfl ?_
  exact kk
theorem bX13_move_37 (B : Bd p s m args meth c cX13_move 9 (wsOf yX13_move cX13_move 9 (some .int)) RX13 w (some .int) "move") {v0 : Nat} {v1 : Int32} {v2 : Int32} {v3 : Int32} {v4 : Int32} {v5 : Int32} {v6 : Int32} {Q : State → Prop} (h1 : kd S v0 = 15) (kt : (gI S 909 v0) ≤ v6 → K p l e rX13_move s m args below meth c 9 w 0 0 Q S 133 [(0, .ref v0), (1, .int v1), (2, .int v2), (3, .int v3), (4, .int v4)] []) (kf : ¬ (gI S 909 v0) ≤ v6 → K p l e rX13_move s m args below meth c 9 w 0 0 Q S 46 [(0, .ref v0), (1, .int v1), (2, .int v2), (3, .int v3), (4, .int v4), (5, .int v5), (6, .int v6)] []) : K p l e rX13_move s m args below meth c 9 w 0 0 Q S 37 [(0, .ref v0), (1, .int v1), (2, .int v2), (3, .int v3), (4, .int v4), (5, .int v5), (6, .int v6)] [] := by
  refine k_iload B 6 rfl dX13_move_37 ?_
  refine k_aload_n B 0 rfl rfl dX13_move_39 ?_
  refine k_getI (f := 909) (v := gI S 909 v0) B 14 13 rfl (by decide) rfl (by decide) rfl rfl (fun w h => in_of (uw_14 w h)) (in_of qfRX13_114) dX13_move_40 h1 rfl ?_
  refine k_icmp_ge (tgt := 133) B dX13_move_43 (by decide) (fun c => ?_) (fun c => ?_)
  · refine k_sub [0, 1, 2, 3, 4] rfl ?_
    exact kt c
  · exact kf c
theorem bX13_move_46 (B : Bd p s m args meth c cX13_move 9 (wsOf yX13_move cX13_move 9 (some .int)) RX13 w (some .int) "move") {v0 : Nat} {v1 : Int32} {v2 : Int32} {v3 : Int32} {v4 : Int32} {v5 : Int32} {v6 : Int32} {Q : State → Prop}  (kt : v5 = (-1) → K p l e rX13_move s m args below meth c 9 w 0 0 Q S 133 [(0, .ref v0), (1, .int v1), (2, .int v2), (3, .int v3), (4, .int v4)] []) (kf : ¬ v5 = (-1) → K p l e rX13_move s m args below meth c 9 w 0 0 Q S 52 [(0, .ref v0), (1, .int v1), (2, .int v2), (3, .int v3), (4, .int v4), (5, .int v5), (6, .int v6)] []) : K p l e rX13_move s m args below meth c 9 w 0 0 Q S 46 [(0, .ref v0), (1, .int v1), (2, .int v2), (3, .int v3), (4, .int v4), (5, .int v5), (6, .int v6)] [] := by
  refine k_iload B 5 rfl dX13_move_46 ?_
  refine k_iconst (v := (-1)) B (by decide) dX13_move_48 ?_
  refine k_icmp_eq (tgt := 133) B dX13_move_49 (by decide) (fun c => ?_) (fun c => ?_)
  · refine k_sub [0, 1, 2, 3, 4] rfl ?_
    exact kt c
  · exact kf c
theorem bX13_move_52 (B : Bd p s m args meth c cX13_move 9 (wsOf yX13_move cX13_move 9 (some .int)) RX13 w (some .int) "move") {v0 : Nat} {v1 : Int32} {v2 : Int32} {v3 : Int32} {v4 : Int32} {v5 : Int32} {v6 : Int32} {Q : State → Prop}  (kk : K p l e rX13_move s m args below meth c 9 w 0 0 Q S 55 [(0, .ref v0), (1, .int v1), (2, .int v2), (3, .int v3), (4, .int v4), (5, .int v5), (6, .int v6), (7, .int 0)] []) : K p l e rX13_move s m args below meth c 9 w 0 0 Q S 52 [(0, .ref v0), (1, .int v1), (2, .int v2), (3, .int v3), (4, .int v4), (5, .int v5), (6, .int v6)] [] := by
  refine k_iconst (v := 0) B (by decide) dX13_move_52 ?_
  refine k_istore (lst' := [(7, .int 0), (0, .ref v0), (1, .int v1), (2, .int v2), (3, .int v3), (4, .int v4), (5, .int v5), (6, .int v6)]) B (by decide) rfl dX13_move_53 ?_
  refine k_sub [1, 2, 3, 4, 5, 6, 7, 0] rfl ?_
  exact kk
theorem bX13_move_55 (B : Bd p s m args meth c cX13_move 9 (wsOf yX13_move cX13_move 9 (some .int)) RX13 w (some .int) "move") {v0 : Nat} {v1 : Int32} {v2 : Int32} {v3 : Int32} {v4 : Int32} {v5 : Int32} {v6 : Int32} {v7 : Int32} {x1 : Nat} {x2 : Nat} {Q : State → Prop} (h1 : kd S v0 = 15) (h2 : gP S 919 v0 = some x1) (h3 : kd S x1 = 14) (h4 : gP S 840 x1 = some x2) (h5 : kd S x2 = 21) (h6 : vp_in v6 (ln S x2)) (kt : ¬ v6 = v5 → K p l e rX13_move s m args below meth c 9 w 0 0 Q S 78 [(0, .ref v0), (1, .int v1), (2, .int v2), (3, .int v3), (4, .int v4), (5, .int v5), (6, .int v6), (7, .int v7)] [.int ((rI S x2) v6.toNatClampNeg), .int v7]) (kf : v6 = v5 → K p l e rX13_move s m args below meth c 9 w 0 0 Q S 74 [(0, .ref v0), (1, .int v1), (2, .int v2), (3, .int v3), (4, .int v4), (5, .int v5), (6, .int v6), (7, .int v7)] [.int ((rI S x2) v6.toNatClampNeg), .int v7]) : K p l e rX13_move s m args below meth c 9 w 0 0 Q S 55 [(0, .ref v0), (1, .int v1), (2, .int v2), (3, .int v3), (4, .int v4), (5, .int v5), (6, .int v6), (7, .int v7)] [] := by
  refine k_iload B 7 rfl dX13_move_55 ?_
  refine k_aload_n B 0 rfl rfl dX13_move_57 ?_
  refine k_getP (f := 919) (r := gP S 919 v0) B 14 23 rfl (by decide) rfl (by decide) rfl rfl (fun w h => in_of (uw_14 w h)) (in_of qfRX13_70) dX13_move_58 h1 rfl ?_
  rw [h2]; change K _ _ _ _ _ _ _ _ _ _ _ _ _ _ _ _ _ _ (.ref x1 :: _)
  refine k_getPN (f := 840) (r := gP S 840 x1) B 13 8 rfl (by decide) rfl (by decide) rfl rfl (fun w h => in_of (uw_13 w h)) "LastMileModel" (nzF_5 B.2.2.2.1.2.2.2.1) dX13_move_61 h3 rfl ?_
  rw [h4]; change K _ _ _ _ _ _ _ _ _ _ _ _ _ _ _ _ _ _ (.ref x2 :: _)
  refine k_iload B 6 rfl dX13_move_64 ?_
  refine k_iald (v := (rI S x2) v6.toNatClampNeg) B dX13_move_66 h5 h6 rfl ?_
  refine k_iload B 6 rfl dX13_move_67 ?_
  refine k_iload B 5 rfl dX13_move_69 ?_
  refine k_icmp_ne (tgt := 78) B dX13_move_71 (by decide) (fun c => ?_) (fun c => ?_)
  · exact kt c
  · exact kf c
theorem bX13_move_74 (B : Bd p s m args meth c cX13_move 9 (wsOf yX13_move cX13_move 9 (some .int)) RX13 w (some .int) "move") {v0 : Nat} {v1 : Int32} {v2 : Int32} {v3 : Int32} {v4 : Int32} {v5 : Int32} {v6 : Int32} {v7 : Int32} {t0 : Int32} {t1 : Int32} {Q : State → Prop}  (kk : K p l e rX13_move s m args below meth c 9 w 0 0 Q S 79 [(0, .ref v0), (1, .int v1), (2, .int v2), (3, .int v3), (4, .int v4), (5, .int v5), (6, .int v6), (7, .int v7)] [.int 1, .int t1, .int t0]) : K p l e rX13_move s m args below meth c 9 w 0 0 Q S 74 [(0, .ref v0), (1, .int v1), (2, .int v2), (3, .int v3), (4, .int v4), (5, .int v5), (6, .int v6), (7, .int v7)] [.int t1, .int t0] := by
  refine k_iconst (v := 1) B (by decide) dX13_move_74 ?_
  refine k_goto (tgt := 79) B dX13_move_75 (by decide) ?_
  exact kk
theorem bX13_move_78 (B : Bd p s m args meth c cX13_move 9 (wsOf yX13_move cX13_move 9 (some .int)) RX13 w (some .int) "move") {v0 : Nat} {v1 : Int32} {v2 : Int32} {v3 : Int32} {v4 : Int32} {v5 : Int32} {v6 : Int32} {v7 : Int32} {t0 : Int32} {t1 : Int32} {Q : State → Prop}  (kk : K p l e rX13_move s m args below meth c 9 w 0 0 Q S 79 [(0, .ref v0), (1, .int v1), (2, .int v2), (3, .int v3), (4, .int v4), (5, .int v5), (6, .int v6), (7, .int v7)] [.int 0, .int t1, .int t0]) : K p l e rX13_move s m args below meth c 9 w 0 0 Q S 78 [(0, .ref v0), (1, .int v1), (2, .int v2), (3, .int v3), (4, .int v4), (5, .int v5), (6, .int v6), (7, .int v7)] [.int t1, .int t0] := by
  refine k_iconst (v := 0) B (by decide) dX13_move_78 ?_
  exact kk
theorem bX13_move_79 (B : Bd p s m args meth c cX13_move 9 (wsOf yX13_move cX13_move 9 (some .int)) RX13 w (some .int) "move") {v0 : Nat} {v1 : Int32} {v2 : Int32} {v3 : Int32} {v4 : Int32} {v5 : Int32} {v6 : Int32} {v7 : Int32} {t0 : Int32} {t1 : Int32} {t2 : Int32} {Q : State → Prop}  (kt : (t1 - t2) < t0 → K p l e rX13_move s m args below meth c 9 w 0 0 Q S 127 [(0, .ref v0), (1, .int v1), (2, .int v2), (3, .int v3), (4, .int v4), (5, .int v5), (6, .int v6)] []) (kf : ¬ (t1 - t2) < t0 → K p l e rX13_move s m args below meth c 9 w 0 0 Q S 83 [(0, .ref v0), (1, .int v1), (2, .int v2), (3, .int v3), (4, .int v4), (5, .int v5), (6, .int v6), (7, .int v7)] []) : K p l e rX13_move s m args below meth c 9 w 0 0 Q S 79 [(0, .ref v0), (1, .int v1), (2, .int v2), (3, .int v3), (4, .int v4), (5, .int v5), (6, .int v6), (7, .int v7)] [.int t2, .int t1, .int t0] := by
  refine k_isub B dX13_move_79 ?_
  refine k_icmp_gt (tgt := 127) B dX13_move_80 (by decide) (fun c => ?_) (fun c => ?_)
  · refine k_sub [0, 1, 2, 3, 4, 5, 6] rfl ?_
    exact kt c
  · exact kf c
theorem bX13_move_83 (B : Bd p s m args meth c cX13_move 9 (wsOf yX13_move cX13_move 9 (some .int)) RX13 w (some .int) "move") {v0 : Nat} {v1 : Int32} {v2 : Int32} {v3 : Int32} {v4 : Int32} {v5 : Int32} {v6 : Int32} {v7 : Int32} {post : Int32 → St → Prop} {Q : State → Prop} (hc : ConI l yX13_moved (wsOf yX13_moved cX13_moved 8 (some .int)) rX13_moved w S [.ref v0, .int v4, .int v5, .int v6, .int v7] post) (h1 : kd S v0 = 15) (kk : ∀ (r : Int32) (S' : St), post r S' → K p l e rX13_move s m args below meth c 9 w 0 0 Q S' 95 [(0, .ref v0), (1, .int v1), (2, .int v2), (3, .int v3), (4, .int v4), (5, .int v5), (6, .int v6), (7, .int v7)] [.int r]) : K p l e rX13_move s m args below meth c 9 w 0 0 Q S 83 [(0, .ref v0), (1, .int v1), (2, .int v2), (3, .int v3), (4, .int v4), (5, .int v5), (6, .int v6), (7, .int v7)] [] := by
  refine k_aload_n B 0 rfl rfl dX13_move_83 ?_
  refine k_iload B 4 rfl dX13_move_84 ?_
  refine k_iload B 5 rfl dX13_move_86 ?_
  refine k_iload B 6 rfl dX13_move_88 ?_
  refine k_iload B 7 rfl dX13_move_90 ?_
  refine callV_I (st := []) B [.int v4, .int v5, .int v6, .int v7] (hc) (cwV 4 B.1.2.2.2.2 (gV qlRX13_249 qiX13_moved qeX13_moved qzRX13 qcX13_moved) rfl rfl rfl (by decide +kernel) ⟨Nat.le_of_ble_eq_true rfl, Nat.le_of_ble_eq_true rfl⟩) rfl rfl (by decide) h1 (Nat.le_of_ble_eq_true rfl) rfl dX13_move_92 ⟨Nat.le_of_ble_eq_true rfl, Nat.le_of_ble_eq_true rfl⟩ (fun r S' hp => ?_)
  exact kk r S' hp
theorem bX13_move_95 (B : Bd p s m args meth c cX13_move 9 (wsOf yX13_move cX13_move 9 (some .int)) RX13 w (some .int) "move") {v0 : Nat} {v1 : Int32} {v2 : Int32} {v3 : Int32} {v4 : Int32} {v5 : Int32} {v6 : Int32} {v7 : Int32} {t0 : Int32} {Q : State → Prop}  (kt : v1 < t0 → K p l e rX13_move s m args below meth c 9 w 0 0 Q S 106 [(0, .ref v0), (4, .int v4), (5, .int v5), (6, .int v6), (7, .int v7), (8, .int t0)] []) (kf : ¬ v1 < t0 → K p l e rX13_move s m args below meth c 9 w 0 0 Q S 103 [(0, .ref v0), (1, .int v1), (2, .int v2), (3, .int v3), (4, .int v4), (5, .int v5), (6, .int v6), (7, .int v7)] []) : K p l e rX13_move s m args below meth c 9 w 0 0 Q S 95 [(0, .ref v0), (1, .int v1), (2, .int v2), (3, .int v3), (4, .int v4), (5, .int v5), (6, .int v6), (7, .int v7)] [.int t0] := by
  refine k_istore (lst' := [(8, .int t0), (0, .ref v0), (1, .int v1), (2, .int v2), (3, .int v3), (4, .int v4), (5, .int v5), (6, .int v6), (7, .int v7)]) B (by decide) rfl dX13_move_95 ?_
  refine k_iload B 0 rfl dX13_move_97 ?_
  refine k_iload_n B 2 rfl rfl dX13_move_99 ?_
  refine k_icmp_gt (tgt := 106) B dX13_move_100 (by decide) (fun c => ?_) (fun c => ?_)
  · refine k_sub [1, 5, 6, 7, 8, 0] rfl ?_
    exact kt c
  · refine k_sub [1, 2, 3, 4, 5, 6, 7, 8] rfl ?_
    exact kf c
theorem bX13_move_103 (B : Bd p s m args meth c cX13_move 9 (wsOf yX13_move cX13_move 9 (some .int)) RX13 w (some .int) "move") {v0 : Nat} {v1 : Int32} {v2 : Int32} {v3 : Int32} {v4 : Int32} {v5 : Int32} {v6 : Int32} {v7 : Int32} {Q : State → Prop}  (kk : K p l e rX13_move s m args below meth c 9 w 0 0 Q S 121 [(0, .ref v0), (1, .int v1), (2, .int v2), (3, .int v3), (4, .int v4), (5, .int v5), (6, .int v6), (7, .int v7)] []) : K p l e rX13_move s m args below meth c 9 w 0 0 Q S 103 [(0, .ref v0), (1, .int v1), (2, .int v2), (3, .int v3), (4, .int v4), (5, .int v5), (6, .int v6), (7, .int v7)] [] := by
  refine k_goto (tgt := 121) B dX13_move_103 (by decide) ?_
  exact kk
theorem bX13_move_106 (B : Bd p s m args meth c cX13_move 9 (wsOf yX13_move cX13_move 9 (some .int)) RX13 w (some .int) "move") {v0 : Nat} {v4 : Int32} {v5 : Int32} {v6 : Int32} {v7 : Int32} {v8 : Int32} {Q : State → Prop}  (kk : K p l e rX13_move s m args below meth c 9 w 0 0 Q S 121 [(0, .ref v0), (1, .int v8), (2, .int v4), (3, .int ((16 * v6) + v7)), (4, .int v4), (5, .int v5), (6, .int v6), (7, .int v7)] []) : K p l e rX13_move s m args below meth c 9 w 0 0 Q S 106 [(0, .ref v0), (4, .int v4), (5, .int v5), (6, .int v6), (7, .int v7), (8, .int v8)] [] := by
  refine k_iload B 5 rfl dX13_move_106 ?_
  refine k_istore_n (lst' := [(1, .int v8), (0, .ref v0), (4, .int v4), (5, .int v5), (6, .int v6), (7, .int v7), (8, .int v8)]) B rfl (by decide) rfl dX13_move_108 ?_
  refine k_iload B 2 rfl dX13_move_109 ?_
  refine k_istore_n (lst' := [(2, .int v4), (1, .int v8), (0, .ref v0), (4, .int v4), (5, .int v5), (6, .int v6), (7, .int v7), (8, .int v8)]) B rfl (by decide) rfl dX13_move_111 ?_
  refine k_bipush (v := 16) B (by decide) dX13_move_112 ?_
  refine k_iload B 5 rfl dX13_move_114 ?_
  refine k_imul B dX13_move_116 ?_
  refine k_iload B 6 rfl dX13_move_117 ?_
  refine k_iadd B dX13_move_119 ?_
  refine k_istore_n (lst' := [(3, .int ((16 * v6) + v7)), (2, .int v4), (1, .int v8), (0, .ref v0), (4, .int v4), (5, .int v5), (6, .int v6), (7, .int v7), (8, .int v8)]) B rfl (by decide) rfl dX13_move_120 ?_
  refine k_sub [3, 2, 1, 0, 4, 5, 6, 7] rfl ?_
  exact kk
theorem bX13_move_121 (B : Bd p s m args meth c cX13_move 9 (wsOf yX13_move cX13_move 9 (some .int)) RX13 w (some .int) "move") {v0 : Nat} {v1 : Int32} {v2 : Int32} {v3 : Int32} {v4 : Int32} {v5 : Int32} {v6 : Int32} {v7 : Int32} {Q : State → Prop}  (kk : K p l e rX13_move s m args below meth c 9 w 0 0 Q S 55 [(0, .ref v0), (1, .int v1), (2, .int v2), (3, .int v3), (4, .int v4), (5, .int v5), (6, .int v6), (7, .int (v7 + 1))] []) : K p l e rX13_move s m args below meth c 9 w 0 0 Q S 121 [(0, .ref v0), (1, .int v1), (2, .int v2), (3, .int v3), (4, .int v4), (5, .int v5), (6, .int v6), (7, .int v7)] [] := by
  refine k_iinc (v := v7 + 1) (lst' := [(7, .int (v7 + 1)), (0, .ref v0), (1, .int v1), (2, .int v2), (3, .int v3), (4, .int v4), (5, .int v5), (6, .int v6)]) B 7 rfl rfl (by decide) rfl dX13_move_121 ?_
  refine k_goto (tgt := 55) B dX13_move_124 (by decide) ?_
  refine k_sub [1, 2, 3, 4, 5, 6, 7, 0] rfl ?_
  exact kk
theorem bX13_move_127 (B : Bd p s m args meth c cX13_move 9 (wsOf yX13_move cX13_move 9 (some .int)) RX13 w (some .int) "move") {v0 : Nat} {v1 : Int32} {v2 : Int32} {v3 : Int32} {v4 : Int32} {v5 : Int32} {v6 : Int32} {Q : State → Prop}  (kk : K p l e rX13_move s m args below meth c 9 w 0 0 Q S 37 [(0, .ref v0), (1, .int v1), (2, .int v2), (3, .int v3), (4, .int v4), (5, .int v5), (6, .int (v6 + 1))] []) : K p l e rX13_move s m args below meth c 9 w 0 0 Q S 127 [(0, .ref v0), (1, .int v1), (2, .int v2), (3, .int v3), (4, .int v4), (5, .int v5), (6, .int v6)] [] := by
  refine k_iinc (v := v6 + 1) (lst' := [(6, .int (v6 + 1)), (0, .ref v0), (1, .int v1), (2, .int v2), (3, .int v3), (4, .int v4), (5, .int v5)]) B 6 rfl rfl (by decide) rfl dX13_move_127 ?_
  refine k_goto (tgt := 37) B dX13_move_130 (by decide) ?_
  refine k_sub [1, 2, 3, 4, 5, 6, 0] rfl ?_
  exact kk
theorem bX13_move_133 (B : Bd p s m args meth c cX13_move 9 (wsOf yX13_move cX13_move 9 (some .int)) RX13 w (some .int) "move") {v0 : Nat} {v1 : Int32} {v2 : Int32} {v3 : Int32} {v4 : Int32} {Q : State → Prop}  (kk : K p l e rX13_move s m args below meth c 9 w 0 0 Q S 14 [(0, .ref v0), (1, .int v1), (2, .int v2), (3, .int v3), (4, .int (v4 + 1))] []) : K p l e rX13_move s m args below meth c 9 w 0 0 Q S 133 [(0, .ref v0), (1, .int v1), (2, .int v2), (3, .int v3), (4, .int v4)] [] := by
  refine k_iinc (v := v4 + 1) (lst' := [(4, .int (v4 + 1)), (0, .ref v0), (1, .int v1), (2, .int v2), (3, .int v3)]) B 4 rfl rfl (by decide) rfl dX13_move_133 ?_
  refine k_goto (tgt := 14) B dX13_move_136 (by decide) ?_
  refine k_sub [1, 2, 3, 4, 0] rfl ?_
  exact kk
theorem bX13_move_139 (B : Bd p s m args meth c cX13_move 9 (wsOf yX13_move cX13_move 9 (some .int)) RX13 w (some .int) "move") {v0 : Nat} {v1 : Int32} {v2 : Int32} {v3 : Int32} {Q : State → Prop}  (kt : ¬ v2 = (-1) → K p l e rX13_move s m args below meth c 9 w 0 0 Q S 146 [(0, .ref v0), (1, .int v1), (2, .int v2), (3, .int v3)] []) (kf : v2 = (-1) → K p l e rX13_move s m args below meth c 9 w 0 0 Q S 144 [] []) : K p l e rX13_move s m args below meth c 9 w 0 0 Q S 139 [(0, .ref v0), (1, .int v1), (2, .int v2), (3, .int v3)] [] := by
  refine k_iload_n B 2 rfl rfl dX13_move_139 ?_
  refine k_iconst (v := (-1)) B (by decide) dX13_move_140 ?_
  refine k_icmp_ne (tgt := 146) B dX13_move_141 (by decide) (fun c => ?_) (fun c => ?_)
  · exact kt c
  · refine k_sub [] rfl ?_
    exact kf c
theorem bX13_move_144 (B : Bd p s m args meth c cX13_move 9 (wsOf yX13_move cX13_move 9 (some .int)) RX13 w (some .int) "move") {post : Int32 → St → Prop}  (hq : post 0 S) : K p l e rX13_move s m args below meth c 9 w 0 0 (MQ below (va_Qi post (fun S' t => Hd w S' t.heap) (wA w)) args s 0 0 (wA w)) S 144 [] [] := by
  refine k_iconst (v := 0) B (by decide) dX13_move_144 ?_
  exact ret_I B rfl dX13_move_145 (hq)
theorem bX13_move_146 (B : Bd p s m args meth c cX13_move 9 (wsOf yX13_move cX13_move 9 (some .int)) RX13 w (some .int) "move") {v0 : Nat} {v1 : Int32} {v2 : Int32} {v3 : Int32} {x1 : Nat} {post : Int32 → St → Prop} {Q : State → Prop} (h1 : kd S v0 = 15) (h2 : gP S 919 v0 = some x1) (hc : ConI l yX12_vanOf (wsOf yX12_vanOf cX12_vanOf 4 (some .int)) rX12_vanOf w S [.ref x1, .int v2] post) (h3 : kd S x1 = 14) (kk : ∀ (r : Int32) (S' : St), post r S' → K p l e rX13_move s m args below meth c 9 w 0 0 Q S' 154 [(0, .ref v0), (1, .int v1), (2, .int v2), (3, .int v3)] [.int r]) : K p l e rX13_move s m args below meth c 9 w 0 0 Q S 146 [(0, .ref v0), (1, .int v1), (2, .int v2), (3, .int v3)] [] := by
  refine k_aload_n B 0 rfl rfl dX13_move_146 ?_
  refine k_getP (f := 919) (r := gP S 919 v0) B 14 23 rfl (by decide) rfl (by decide) rfl rfl (fun w h => in_of (uw_14 w h)) (in_of qfRX13_70) dX13_move_147 h1 rfl ?_
  rw [h2]; change K _ _ _ _ _ _ _ _ _ _ _ _ _ _ _ _ _ _ (.ref x1 :: _)
  refine k_iload_n B 2 rfl rfl dX13_move_150 ?_
  refine callV_I (st := []) B [.int v2] (hc) (cwV 1 B.1.2.2.2.2 (gV qlRX13_160 qiX12_vanOf qeX12_vanOf qzRX12 qcX12_vanOf) rfl rfl rfl (by decide +kernel) ⟨Nat.le_of_ble_eq_true rfl, Nat.le_of_ble_eq_true rfl⟩) rfl rfl (by decide) h3 (Nat.le_of_ble_eq_true rfl) rfl dX13_move_151 ⟨Nat.le_of_ble_eq_true rfl, Nat.le_of_ble_eq_true rfl⟩ (fun r S' hp => ?_)
  exact kk r S' hp
theorem bX13_move_154 (B : Bd p s m args meth c cX13_move 9 (wsOf yX13_move cX13_move 9 (some .int)) RX13 w (some .int) "move") {v0 : Nat} {v1 : Int32} {v2 : Int32} {v3 : Int32} {t0 : Int32} {post : St → Prop} {Q : State → Prop} (hc : ConV l yX13_look (wsOf yX13_look cX13_look 2 none) rX13_look w S [.ref v0, .int t0] post) (h1 : kd S v0 = 15) (kk : ∀ (S' : St), post S' → K p l e rX13_move s m args below meth c 9 w 0 0 Q S' 162 [(0, .ref v0), (1, .int v1), (2, .int v2), (3, .int v3), (4, .int t0)] []) : K p l e rX13_move s m args below meth c 9 w 0 0 Q S 154 [(0, .ref v0), (1, .int v1), (2, .int v2), (3, .int v3)] [.int t0] := by
  refine k_istore (lst' := [(4, .int t0), (0, .ref v0), (1, .int v1), (2, .int v2), (3, .int v3)]) B (by decide) rfl dX13_move_154 ?_
  refine k_aload_n B 1 rfl rfl dX13_move_156 ?_
  refine k_iload B 0 rfl dX13_move_157 ?_
  refine callV_V (st := []) B [.int t0] (hc) (cwV 1 B.1.2.2.2.2 (gV qlRX13_203 qiX13_look qeX13_look qzRX13 qcX13_look) rfl rfl rfl (by decide +kernel) ⟨Nat.le_of_ble_eq_true rfl, Nat.le_of_ble_eq_true rfl⟩) rfl rfl (by decide) h1 (Nat.le_of_ble_eq_true rfl) rfl dX13_move_159 ⟨Nat.le_of_ble_eq_true rfl, Nat.le_of_ble_eq_true rfl⟩ (fun S' hp => ?_)
  refine k_sub [1, 2, 3, 4, 0] rfl ?_
  exact kk S' hp
theorem bX13_move_162 (B : Bd p s m args meth c cX13_move 9 (wsOf yX13_move cX13_move 9 (some .int)) RX13 w (some .int) "move") {v0 : Nat} {v1 : Int32} {v2 : Int32} {v3 : Int32} {v4 : Int32} {post : Int32 → St → Prop} {Q : State → Prop} (hc : ConI l yX13_placeOf (wsOf yX13_placeOf cX13_placeOf 4 (some .int)) rX13_placeOf w S [.ref v0, .int v2, .int v4] post) (h1 : kd S v0 = 15) (kk : ∀ (r : Int32) (S' : St), post r S' → K p l e rX13_move s m args below meth c 9 w 0 0 Q S' 170 [(0, .ref v0), (1, .int v1), (2, .int v2), (3, .int v3), (4, .int v4)] [.int r, .ref v0]) : K p l e rX13_move s m args below meth c 9 w 0 0 Q S 162 [(0, .ref v0), (1, .int v1), (2, .int v2), (3, .int v3), (4, .int v4)] [] := by
  refine k_aload_n B 0 rfl rfl dX13_move_162 ?_
  refine k_aload_n B 0 rfl rfl dX13_move_163 ?_
  refine k_iload_n B 2 rfl rfl dX13_move_164 ?_
  refine k_iload B 4 rfl dX13_move_165 ?_
  refine callV_I (st := [.ref v0]) B [.int v2, .int v4] (hc) (cwV 2 B.1.2.2.2.2 (gV qlRX13_246 qiX13_placeOf qeX13_placeOf qzRX13 qcX13_placeOf) rfl rfl rfl (by decide +kernel) ⟨Nat.le_of_ble_eq_true rfl, Nat.le_of_ble_eq_true rfl⟩) rfl rfl (by decide) h1 (Nat.le_of_ble_eq_true rfl) rfl dX13_move_167 ⟨Nat.le_of_ble_eq_true rfl, Nat.le_of_ble_eq_true rfl⟩ (fun r S' hp => ?_)
  exact kk r S' hp
theorem bX13_move_170 (B : Bd p s m args meth c cX13_move 9 (wsOf yX13_move cX13_move 9 (some .int)) RX13 w (some .int) "move") {v0 : Nat} {v1 : Int32} {v2 : Int32} {v3 : Int32} {v4 : Int32} {t0 : Nat} {t1 : Int32} {post : St → Prop} {Q : State → Prop} (hc : ConV l yX13_remove (wsOf yX13_remove cX13_remove 2 none) rX13_remove w S [.ref t0, .int t1] post) (h1 : kd S t0 = 15) (kk : ∀ (S' : St), post S' → K p l e rX13_move s m args below meth c 9 w 0 0 Q S' 173 [(0, .ref v0), (1, .int v1), (2, .int v2), (3, .int v3), (4, .int v4)] []) : K p l e rX13_move s m args below meth c 9 w 0 0 Q S 170 [(0, .ref v0), (1, .int v1), (2, .int v2), (3, .int v3), (4, .int v4)] [.int t1, .ref t0] := by
  refine callV_V (st := []) B [.int t1] (hc) (cwV 1 B.1.2.2.2.2 (gV qlRX13_231 qiX13_remove qeX13_remove qzRX13 qcX13_remove) rfl rfl rfl (by decide +kernel) ⟨Nat.le_of_ble_eq_true rfl, Nat.le_of_ble_eq_true rfl⟩) rfl rfl (by decide) h1 (Nat.le_of_ble_eq_true rfl) rfl dX13_move_170 ⟨Nat.le_of_ble_eq_true rfl, Nat.le_of_ble_eq_true rfl⟩ (fun S' hp => ?_)
  exact kk S' hp
theorem bX13_move_173 (B : Bd p s m args meth c cX13_move 9 (wsOf yX13_move cX13_move 9 (some .int)) RX13 w (some .int) "move") {v0 : Nat} {v1 : Int32} {v2 : Int32} {v3 : Int32} {v4 : Int32} {post : St → Prop} {Q : State → Prop} (hc : ConV l yX13_keep (wsOf yX13_keep cX13_keep 2 none) rX13_keep w S [.ref v0, .int v4] post) (h1 : kd S v0 = 15) (kk : ∀ (S' : St), post S' → K p l e rX13_move s m args below meth c 9 w 0 0 Q S' 179 [(0, .ref v0), (1, .int v1), (2, .int v2), (3, .int v3)] []) : K p l e rX13_move s m args below meth c 9 w 0 0 Q S 173 [(0, .ref v0), (1, .int v1), (2, .int v2), (3, .int v3), (4, .int v4)] [] := by
  refine k_aload_n B 0 rfl rfl dX13_move_173 ?_
  refine k_iload B 4 rfl dX13_move_174 ?_
  refine callV_V (st := []) B [.int v4] (hc) (cwV 1 B.1.2.2.2.2 (gV qlRX13_228 qiX13_keep qeX13_keep qzRX13 qcX13_keep) rfl rfl rfl (by decide +kernel) ⟨Nat.le_of_ble_eq_true rfl, Nat.le_of_ble_eq_true rfl⟩) rfl rfl (by decide) h1 (Nat.le_of_ble_eq_true rfl) rfl dX13_move_176 ⟨Nat.le_of_ble_eq_true rfl, Nat.le_of_ble_eq_true rfl⟩ (fun S' hp => ?_)
  refine k_sub [0, 1, 2, 3] rfl ?_
  exact kk S' hp
theorem bX13_move_179 (B : Bd p s m args meth c cX13_move 9 (wsOf yX13_move cX13_move 9 (some .int)) RX13 w (some .int) "move") {v0 : Nat} {v1 : Int32} {v2 : Int32} {v3 : Int32} {post : St → Prop} {Q : State → Prop} (hc : ConV l yX13_look (wsOf yX13_look cX13_look 2 none) rX13_look w S [.ref v0, .int (v3 / 16)] post) (h1 : kd S v0 = 15) (kk : ∀ (S' : St), post S' → K p l e rX13_move s m args below meth c 9 w 0 0 Q S' 187 [(0, .ref v0), (1, .int v1), (2, .int v2), (3, .int v3)] []) : K p l e rX13_move s m args below meth c 9 w 0 0 Q S 179 [(0, .ref v0), (1, .int v1), (2, .int v2), (3, .int v3)] [] := by
  refine k_aload_n B 0 rfl rfl dX13_move_179 ?_
  refine k_iload_n B 3 rfl rfl dX13_move_180 ?_
  refine k_bipush (v := 16) B (by decide) dX13_move_181 ?_
  refine k_idiv B (by decide) dX13_move_183 ?_
  refine callV_V (st := []) B [.int (v3 / 16)] (hc) (cwV 1 B.1.2.2.2.2 (gV qlRX13_203 qiX13_look qeX13_look qzRX13 qcX13_look) rfl rfl rfl (by decide +kernel) ⟨Nat.le_of_ble_eq_true rfl, Nat.le_of_ble_eq_true rfl⟩) rfl rfl (by decide) h1 (Nat.le_of_ble_eq_true rfl) rfl dX13_move_184 ⟨Nat.le_of_ble_eq_true rfl, Nat.le_of_ble_eq_true rfl⟩ (fun S' hp => ?_)
  exact kk S' hp
theorem bX13_move_187 (B : Bd p s m args meth c cX13_move 9 (wsOf yX13_move cX13_move 9 (some .int)) RX13 w (some .int) "move") {v0 : Nat} {v1 : Int32} {v2 : Int32} {v3 : Int32} {post : St → Prop} {Q : State → Prop} (hc : ConV l yX13_insert (wsOf yX13_insert cX13_insert 3 none) rX13_insert w S [.ref v0, .int v2, .int (v3 - v3 / 16 * 16)] post) (h1 : kd S v0 = 15) (kk : ∀ (S' : St), post S' → K p l e rX13_move s m args below meth c 9 w 0 0 Q S' 196 [(0, .ref v0), (1, .int v1), (3, .int v3)] []) : K p l e rX13_move s m args below meth c 9 w 0 0 Q S 187 [(0, .ref v0), (1, .int v1), (2, .int v2), (3, .int v3)] [] := by
  refine k_aload_n B 0 rfl rfl dX13_move_187 ?_
  refine k_iload_n B 2 rfl rfl dX13_move_188 ?_
  refine k_iload_n B 3 rfl rfl dX13_move_189 ?_
  refine k_bipush (v := 16) B (by decide) dX13_move_190 ?_
  refine k_irem B (by decide) dX13_move_192 ?_
  refine callV_V (st := []) B [.int v2, .int (v3 - v3 / 16 * 16)] (hc) (cwV 2 B.1.2.2.2.2 (gV qlRX13_213 qiX13_insert qeX13_insert qzRX13 qcX13_insert) rfl rfl rfl (by decide +kernel) ⟨Nat.le_of_ble_eq_true rfl, Nat.le_of_ble_eq_true rfl⟩) rfl rfl (by decide) h1 (Nat.le_of_ble_eq_true rfl) rfl dX13_move_193 ⟨Nat.le_of_ble_eq_true rfl, Nat.le_of_ble_eq_true rfl⟩ (fun S' hp => ?_)
  refine k_sub [0, 1, 3] rfl ?_
  exact kk S' hp
theorem bX13_move_196 (B : Bd p s m args meth c cX13_move 9 (wsOf yX13_move cX13_move 9 (some .int)) RX13 w (some .int) "move") {v0 : Nat} {v1 : Int32} {v3 : Int32} {post : St → Prop} {Q : State → Prop} (hc : ConV l yX13_keep (wsOf yX13_keep cX13_keep 2 none) rX13_keep w S [.ref v0, .int (v3 / 16)] post) (h1 : kd S v0 = 15) (kk : ∀ (S' : St), post S' → K p l e rX13_move s m args below meth c 9 w 0 0 Q S' 204 [(1, .int v1)] []) : K p l e rX13_move s m args below meth c 9 w 0 0 Q S 196 [(0, .ref v0), (1, .int v1), (3, .int v3)] [] := by
  refine k_aload_n B 0 rfl rfl dX13_move_196 ?_
  refine k_iload_n B 2 rfl rfl dX13_move_197 ?_
  refine k_bipush (v := 16) B (by decide) dX13_move_198 ?_
  refine k_idiv B (by decide) dX13_move_200 ?_
  refine callV_V (st := []) B [.int (v3 / 16)] (hc) (cwV 1 B.1.2.2.2.2 (gV qlRX13_228 qiX13_keep qeX13_keep qzRX13 qcX13_keep) rfl rfl rfl (by decide +kernel) ⟨Nat.le_of_ble_eq_true rfl, Nat.le_of_ble_eq_true rfl⟩) rfl rfl (by decide) h1 (Nat.le_of_ble_eq_true rfl) rfl dX13_move_201 ⟨Nat.le_of_ble_eq_true rfl, Nat.le_of_ble_eq_true rfl⟩ (fun S' hp => ?_)
  refine k_sub [1] rfl ?_
  exact kk S' hp
theorem bX13_move_204 (B : Bd p s m args meth c cX13_move 9 (wsOf yX13_move cX13_move 9 (some .int)) RX13 w (some .int) "move") {v1 : Int32} {post : Int32 → St → Prop}  (hq : post v1 S) : K p l e rX13_move s m args below meth c 9 w 0 0 (MQ below (va_Qi post (fun S' t => Hd w S' t.heap) (wA w)) args s 0 0 (wA w)) S 204 [(1, .int v1)] [] := by
  refine k_iload_n B 0 rfl rfl dX13_move_204 ?_
  exact ret_I B rfl dX13_move_205 (hq)
theorem bX13_counted_0 (B : Bd p s m args meth c cX13_counted 5 (wsOf yX13_counted cX13_counted 5 (some .int)) RX13 w (some .int) "counted") {v0 : Nat} {v1 : Int32} {k n : Nat} {Q : State → Prop}  (kk : K p l e rX13_counted s m args below meth c 5 w k n Q S 7 [(0, .ref v0), (1, .int v1), (2, .int 0), (3, .int 0), (4, .int 0)] []) : K p l e rX13_counted s m args below meth c 5 w k n Q S 0 [(0, .ref v0), (1, .int v1)] [] := by
  refine k_iconst (v := 0) B (by decide) dX13_counted_0 ?_
  refine k_istore_n (lst' := [(2, .int 0), (0, .ref v0), (1, .int v1)]) B rfl (by decide) rfl dX13_counted_1 ?_
  refine k_iconst (v := 0) B (by decide) dX13_counted_2 ?_
  refine k_istore_n (lst' := [(3, .int 0), (2, .int 0), (0, .ref v0), (1, .int v1)]) B rfl (by decide) rfl dX13_counted_3 ?_
  refine k_iconst (v := 0) B (by decide) dX13_counted_4 ?_
  refine k_istore (lst' := [(4, .int 0), (3, .int 0), (2, .int 0), (0, .ref v0), (1, .int v1)]) B (by decide) rfl dX13_counted_5 ?_
  refine k_sub [3, 4, 2, 1, 0] rfl ?_
  exact kk
theorem bX13_counted_7 (B : Bd p s m args meth c cX13_counted 5 (wsOf yX13_counted cX13_counted 5 (some .int)) RX13 w (some .int) "counted") {v0 : Nat} {v1 : Int32} {v2 : Int32} {v3 : Int32} {v4 : Int32} {k n : Nat} {Q : State → Prop} (h1 : kd S v0 = 15) (kt : (gI S 913 v0) ≤ v4 → K p l e rX13_counted s m args below meth c 5 w k n Q S 39 [(0, .ref v0), (1, .int v1), (2, .int v2), (3, .int v3)] []) (kf : ¬ (gI S 913 v0) ≤ v4 → K p l e rX13_counted s m args below meth c 5 w k n Q S 16 [(0, .ref v0), (1, .int v1), (2, .int v2), (3, .int v3), (4, .int v4)] []) : K p l e rX13_counted s m args below meth c 5 w k n Q S 7 [(0, .ref v0), (1, .int v1), (2, .int v2), (3, .int v3), (4, .int v4)] [] := by
  refine k_iload B 4 rfl dX13_counted_7 ?_
  refine k_aload_n B 0 rfl rfl dX13_counted_9 ?_
  refine k_getI (f := 913) (v := gI S 913 v0) B 14 17 rfl (by decide) rfl (by decide) rfl rfl (fun w h => in_of (uw_14 w h)) (in_of qfRX13_117) dX13_counted_10 h1 rfl ?_
  refine k_icmp_ge (tgt := 39) B dX13_counted_13 (by decide) (fun c => ?_) (fun c => ?_)
  · refine k_sub [0, 1, 2, 3] rfl ?_
    exact kt c
  · exact kf c
theorem bX13_counted_16 (B : Bd p s m args meth c cX13_counted 5 (wsOf yX13_counted cX13_counted 5 (some .int)) RX13 w (some .int) "counted") {v0 : Nat} {v1 : Int32} {v2 : Int32} {v3 : Int32} {v4 : Int32} {post : Int32 → St → Prop} {k n : Nat} {Q : State → Prop} (hc : ConI l yX13_isFree (wsOf yX13_isFree cX13_isFree 2 (some .boolean)) rX13_isFree w S [.ref v0, .int v4] post) (h1 : k + 0 ≤ rX13_counted.cells) (h2 : n + 0 ≤ rX13_counted.slots) (h3 : kd S v0 = 15) (kk : ∀ (r : Int32) (S' : St), post r S' → K p l e rX13_counted s m args below meth c 5 w k n Q S' 23 [(0, .ref v0), (1, .int v1), (3, .int v3), (4, .int v4)] [.int r, .int v2]) : K p l e rX13_counted s m args below meth c 5 w k n Q S 16 [(0, .ref v0), (1, .int v1), (2, .int v2), (3, .int v3), (4, .int v4)] [] := by
  refine k_iload_n B 2 rfl rfl dX13_counted_16 ?_
  refine k_aload_n B 0 rfl rfl dX13_counted_17 ?_
  refine k_iload B 4 rfl dX13_counted_18 ?_
  refine callV_I (st := [.int v2]) B [.int v4] (hc) (cwV 1 B.1.2.2.2.2 (gV qlRX13_221 qiX13_isFree qeX13_isFree qzRX13 qcX13_isFree) rfl rfl rfl (by decide +kernel) ⟨Nat.le_of_ble_eq_true rfl, Nat.le_of_ble_eq_true rfl⟩) rfl rfl (by decide) h3 (Nat.le_of_ble_eq_true rfl) rfl dX13_counted_20 ⟨h1, h2⟩ (fun r S' hp => ?_)
  refine k_sub [0, 1, 3, 4] rfl ?_
  exact kk r S' hp
theorem bX13_counted_23 (B : Bd p s m args meth c cX13_counted 5 (wsOf yX13_counted cX13_counted 5 (some .int)) RX13 w (some .int) "counted") {v0 : Nat} {v1 : Int32} {v3 : Int32} {v4 : Int32} {t0 : Int32} {t1 : Int32} {k n : Nat} {Q : State → Prop}  (kt : t1 = 0 → K p l e rX13_counted s m args below meth c 5 w k n Q S 30 [(0, .ref v0), (1, .int v1), (3, .int v3), (4, .int v4)] [.int t0]) (kf : ¬ t1 = 0 → K p l e rX13_counted s m args below meth c 5 w k n Q S 26 [(0, .ref v0), (1, .int v1), (3, .int v3), (4, .int v4)] [.int t0]) : K p l e rX13_counted s m args below meth c 5 w k n Q S 23 [(0, .ref v0), (1, .int v1), (3, .int v3), (4, .int v4)] [.int t1, .int t0] := by
  refine k_if_eq (tgt := 30) B dX13_counted_23 (by decide) (fun c => ?_) (fun c => ?_)
  · exact kt c
  · exact kf c
theorem bX13_counted_26 (B : Bd p s m args meth c cX13_counted 5 (wsOf yX13_counted cX13_counted 5 (some .int)) RX13 w (some .int) "counted") {v0 : Nat} {v1 : Int32} {v3 : Int32} {v4 : Int32} {t0 : Int32} {k n : Nat} {Q : State → Prop}  (kk : K p l e rX13_counted s m args below meth c 5 w k n Q S 31 [(0, .ref v0), (1, .int v1), (3, .int v3), (4, .int v4)] [.int 1, .int t0]) : K p l e rX13_counted s m args below meth c 5 w k n Q S 26 [(0, .ref v0), (1, .int v1), (3, .int v3), (4, .int v4)] [.int t0] := by
  refine k_iconst (v := 1) B (by decide) dX13_counted_26 ?_
  refine k_goto (tgt := 31) B dX13_counted_27 (by decide) ?_
  exact kk
theorem bX13_counted_30 (B : Bd p s m args meth c cX13_counted 5 (wsOf yX13_counted cX13_counted 5 (some .int)) RX13 w (some .int) "counted") {v0 : Nat} {v1 : Int32} {v3 : Int32} {v4 : Int32} {t0 : Int32} {k n : Nat} {Q : State → Prop}  (kk : K p l e rX13_counted s m args below meth c 5 w k n Q S 31 [(0, .ref v0), (1, .int v1), (3, .int v3), (4, .int v4)] [.int 0, .int t0]) : K p l e rX13_counted s m args below meth c 5 w k n Q S 30 [(0, .ref v0), (1, .int v1), (3, .int v3), (4, .int v4)] [.int t0] := by
  refine k_iconst (v := 0) B (by decide) dX13_counted_30 ?_
  exact kk
theorem bX13_counted_31 (B : Bd p s m args meth c cX13_counted 5 (wsOf yX13_counted cX13_counted 5 (some .int)) RX13 w (some .int) "counted") {v0 : Nat} {v1 : Int32} {v3 : Int32} {v4 : Int32} {t0 : Int32} {t1 : Int32} {k n : Nat} {Q : State → Prop}  (kk : K p l e rX13_counted s m args below meth c 5 w k n Q S 7 [(0, .ref v0), (1, .int v1), (2, .int (t0 + t1)), (3, .int v3), (4, .int (v4 + 1))] []) : K p l e rX13_counted s m args below meth c 5 w k n Q S 31 [(0, .ref v0), (1, .int v1), (3, .int v3), (4, .int v4)] [.int t1, .int t0] := by
  refine k_iadd B dX13_counted_31 ?_
  refine k_istore_n (lst' := [(2, .int (t0 + t1)), (0, .ref v0), (1, .int v1), (3, .int v3), (4, .int v4)]) B rfl (by decide) rfl dX13_counted_32 ?_
  refine k_iinc (v := v4 + 1) (lst' := [(4, .int (v4 + 1)), (2, .int (t0 + t1)), (0, .ref v0), (1, .int v1), (3, .int v3)]) B 4 rfl rfl (by decide) rfl dX13_counted_33 ?_
  refine k_goto (tgt := 7) B dX13_counted_36 (by decide) ?_
  refine k_sub [2, 3, 1, 4, 0] rfl ?_
  exact kk
theorem bX13_counted_39 (B : Bd p s m args meth c cX13_counted 5 (wsOf yX13_counted cX13_counted 5 (some .int)) RX13 w (some .int) "counted") {v0 : Nat} {v1 : Int32} {v2 : Int32} {v3 : Int32} {k n : Nat} {Q : State → Prop}  (kk : K p l e rX13_counted s m args below meth c 5 w k n Q S 42 [(0, .ref v0), (1, .int v1), (2, .int v2), (3, .int v3), (4, .int 0)] []) : K p l e rX13_counted s m args below meth c 5 w k n Q S 39 [(0, .ref v0), (1, .int v1), (2, .int v2), (3, .int v3)] [] := by
  refine k_iconst (v := 0) B (by decide) dX13_counted_39 ?_
  refine k_istore (lst' := [(4, .int 0), (0, .ref v0), (1, .int v1), (2, .int v2), (3, .int v3)]) B (by decide) rfl dX13_counted_40 ?_
  refine k_sub [1, 2, 3, 4, 0] rfl ?_
  exact kk
theorem bX13_counted_42 (B : Bd p s m args meth c cX13_counted 5 (wsOf yX13_counted cX13_counted 5 (some .int)) RX13 w (some .int) "counted") {v0 : Nat} {v1 : Int32} {v2 : Int32} {v3 : Int32} {v4 : Int32} {k n : Nat} {Q : State → Prop} (h1 : kd S v0 = 15) (kt : (gI S 909 v0) ≤ v4 → K p l e rX13_counted s m args below meth c 5 w k n Q S 66 [(0, .ref v0), (1, .int v1), (2, .int v2), (3, .int v3)] []) (kf : ¬ (gI S 909 v0) ≤ v4 → K p l e rX13_counted s m args below meth c 5 w k n Q S 51 [(0, .ref v0), (1, .int v1), (2, .int v2), (3, .int v3), (4, .int v4)] []) : K p l e rX13_counted s m args below meth c 5 w k n Q S 42 [(0, .ref v0), (1, .int v1), (2, .int v2), (3, .int v3), (4, .int v4)] [] := by
  refine k_iload B 4 rfl dX13_counted_42 ?_
  refine k_aload_n B 0 rfl rfl dX13_counted_44 ?_
  refine k_getI (f := 909) (v := gI S 909 v0) B 14 13 rfl (by decide) rfl (by decide) rfl rfl (fun w h => in_of (uw_14 w h)) (in_of qfRX13_114) dX13_counted_45 h1 rfl ?_
  refine k_icmp_ge (tgt := 66) B dX13_counted_48 (by decide) (fun c => ?_) (fun c => ?_)
  · refine k_sub [0, 1, 2, 3] rfl ?_
    exact kt c
  · exact kf c
theorem bX13_counted_51 (B : Bd p s m args meth c cX13_counted 5 (wsOf yX13_counted cX13_counted 5 (some .int)) RX13 w (some .int) "counted") {v0 : Nat} {v1 : Int32} {v2 : Int32} {v3 : Int32} {v4 : Int32} {post : Int32 → St → Prop} {k n : Nat} {Q : State → Prop} (hc : ConI l yX13_routeCost (wsOf yX13_routeCost cX13_routeCost 2 (some .int)) rX13_routeCost w S [.ref v0, .int v4] post) (h1 : k + 0 ≤ rX13_counted.cells) (h2 : n + 0 ≤ rX13_counted.slots) (h3 : kd S v0 = 15) (kk : ∀ (r : Int32) (S' : St), post r S' → K p l e rX13_counted s m args below meth c 5 w k n Q S' 58 [(0, .ref v0), (1, .int v1), (2, .int v2), (4, .int v4)] [.int r, .int v3]) : K p l e rX13_counted s m args below meth c 5 w k n Q S 51 [(0, .ref v0), (1, .int v1), (2, .int v2), (3, .int v3), (4, .int v4)] [] := by
  refine k_iload_n B 3 rfl rfl dX13_counted_51 ?_
  refine k_aload_n B 0 rfl rfl dX13_counted_52 ?_
  refine k_iload B 4 rfl dX13_counted_53 ?_
  refine callV_I (st := [.int v3]) B [.int v4] (hc) (cwV 1 B.1.2.2.2.2 (gV qlRX13_210 qiX13_routeCost qeX13_routeCost qzRX13 qcX13_routeCost) rfl rfl rfl (by decide +kernel) ⟨Nat.le_of_ble_eq_true rfl, Nat.le_of_ble_eq_true rfl⟩) rfl rfl (by decide) h3 (Nat.le_of_ble_eq_true rfl) rfl dX13_counted_55 ⟨h1, h2⟩ (fun r S' hp => ?_)
  refine k_sub [0, 1, 2, 4] rfl ?_
  exact kk r S' hp
theorem bX13_counted_58 (B : Bd p s m args meth c cX13_counted 5 (wsOf yX13_counted cX13_counted 5 (some .int)) RX13 w (some .int) "counted") {v0 : Nat} {v1 : Int32} {v2 : Int32} {v4 : Int32} {t0 : Int32} {t1 : Int32} {k n : Nat} {Q : State → Prop}  (kk : K p l e rX13_counted s m args below meth c 5 w k n Q S 42 [(0, .ref v0), (1, .int v1), (2, .int v2), (3, .int (t0 + t1)), (4, .int (v4 + 1))] []) : K p l e rX13_counted s m args below meth c 5 w k n Q S 58 [(0, .ref v0), (1, .int v1), (2, .int v2), (4, .int v4)] [.int t1, .int t0] := by
  refine k_iadd B dX13_counted_58 ?_
  refine k_istore_n (lst' := [(3, .int (t0 + t1)), (0, .ref v0), (1, .int v1), (2, .int v2), (4, .int v4)]) B rfl (by decide) rfl dX13_counted_59 ?_
  refine k_iinc (v := v4 + 1) (lst' := [(4, .int (v4 + 1)), (3, .int (t0 + t1)), (0, .ref v0), (1, .int v1), (2, .int v2)]) B 4 rfl rfl (by decide) rfl dX13_counted_60 ?_
  refine k_goto (tgt := 42) B dX13_counted_63 (by decide) ?_
  refine k_sub [2, 3, 4, 1, 0] rfl ?_
  exact kk
theorem bX13_counted_66 (B : Bd p s m args meth c cX13_counted 5 (wsOf yX13_counted cX13_counted 5 (some .int)) RX13 w (some .int) "counted") {v0 : Nat} {v1 : Int32} {v2 : Int32} {v3 : Int32} {k n : Nat} {Q : State → Prop} (h1 : k + 1 ≤ rX13_counted.cells) (h2 : n + 12 ≤ rX13_counted.slots) (kk : ∀ q68 : Nat, kd S q68 = 0 → K p l e rX13_counted s m args below meth c 5 w (k + 1) (n + 12) Q (nw S q68 21 12) 70 [(0, .ref v0), (1, .int v1), (2, .int v2), (3, .int v3)] [.ref q68]) : K p l e rX13_counted s m args below meth c 5 w k n Q S 66 [(0, .ref v0), (1, .int v1), (2, .int v2), (3, .int v3)] [] := by
  refine k_bipush (v := 12) B (by decide) dX13_counted_66 ?_
  refine k_newI (N' := 12) B (in_of qarrI) (by decide) (by decide) (by decide) h1 h2 dX13_counted_68 (fun q68 f68 => ?_)
  exact kk q68 f68
theorem bX13_counted_70 (B : Bd p s m args meth c cX13_counted 5 (wsOf yX13_counted cX13_counted 5 (some .int)) RX13 w (some .int) "counted") {v0 : Nat} {v1 : Int32} {v2 : Int32} {v3 : Int32} {t0 : Nat} {x1 : Nat} {x2 : Nat} {post : Int32 → St → Prop} {k n : Nat} {Q : State → Prop} (h1 : kd S v0 = 15) (h2 : gP S 919 v0 = some x1) (h3 : kd S x1 = 14) (h4 : kd S t0 = 21) (h5 : vp_in 0 (ln S t0)) (h6 : vp_in 1 (ln S t0)) (h7 : vp_in 2 (ln S t0)) (h8 : vp_in 3 (ln S t0)) (h9 : vp_in 4 (ln S t0)) (h10 : gP S 919 v0 = some x2) (hc : ConI l yX12_how (wsOf yX12_how cX12_how 4 (some .int)) rX12_how w (sRI S t0 (va_up (va_up (va_up (va_up (va_up (rI S t0) (0 : Int32).toNatClampNeg (gI S 832 x1)) (1 : Int32).toNatClampNeg (gI S 900 v0)) (2 : Int32).toNatClampNeg (gI S 906 v0)) (3 : Int32).toNatClampNeg (gI S 909 v0)) (4 : Int32).toNatClampNeg (gI S 913 v0))) [.ref x2, .int 0] post) (h11 : k + 0 ≤ rX13_counted.cells) (h12 : n + 0 ≤ rX13_counted.slots) (h13 : kd S x2 = 14) (kk : ∀ (r : Int32) (S' : St), post r S' → K p l e rX13_counted s m args below meth c 5 w k n Q S' 118 [(0, .ref v0), (1, .int v1), (2, .int v2), (3, .int v3)] [.int r, .int 5, .ref t0, .ref t0]) : K p l e rX13_counted s m args below meth c 5 w k n Q S 70 [(0, .ref v0), (1, .int v1), (2, .int v2), (3, .int v3)] [.ref t0] := by
  refine k_dup B rfl dX13_counted_70 ?_
  refine k_iconst (v := 0) B (by decide) dX13_counted_71 ?_
  refine k_aload_n B 0 rfl rfl dX13_counted_72 ?_
  refine k_getP (f := 919) (r := gP S 919 v0) B 14 23 rfl (by decide) rfl (by decide) rfl rfl (fun w h => in_of (uw_14 w h)) (in_of qfRX13_70) dX13_counted_73 h1 rfl ?_
  rw [h2]; change K _ _ _ _ _ _ _ _ _ _ _ _ _ _ _ _ _ _ (.ref x1 :: _)
  refine k_getIN (f := 832) (v := gI S 832 x1) B 13 0 rfl (by decide) rfl (by decide) rfl rfl (fun w h => in_of (uw_13 w h)) "LastMileModel" (nzF_7 B.2.2.2.1.2.2.2.1) dX13_counted_76 h3 rfl ?_
  refine k_iast (g := rI S t0) (S' := sRI S t0 (va_up (rI S t0) (0 : Int32).toNatClampNeg (gI S 832 x1))) B dX13_counted_79 h4 h5 rfl rfl ?_
  refine k_dup B rfl dX13_counted_80 ?_
  refine k_iconst (v := 1) B (by decide) dX13_counted_81 ?_
  refine k_aload_n B 0 rfl rfl dX13_counted_82 ?_
  refine k_getI (f := 900) (v := gI S 900 v0) B 14 4 rfl (by decide) rfl (by decide) rfl rfl (fun w h => in_of (uw_14 w h)) (in_of qfRX13_108) dX13_counted_83 h1 rfl ?_
  refine k_iast (g := va_up (rI S t0) (0 : Int32).toNatClampNeg (gI S 832 x1)) (S' := sRI S t0 (va_up (va_up (rI S t0) (0 : Int32).toNatClampNeg (gI S 832 x1)) (1 : Int32).toNatClampNeg (gI S 900 v0))) B dX13_counted_86 h4 h6 (by simp [kd_sI, kd_sP, kd_sRI, kd_sRP, kd_nw, gI_sI, gI_sP, gI_sRI, gI_sRP, gI_nw, gP_sI, gP_sP, gP_sRI, gP_sRP, gP_nw, ln_sI, ln_sP, ln_sRI, ln_sRP, ln_nw, rI_sI, rI_sP, rI_sRI, rI_sRP, rI_nw, rP_sI, rP_sP, rP_sRI, rP_sRP, rP_nw, va_up_self]) (sRI_sRI ..) ?_
  refine k_dup B rfl dX13_counted_87 ?_
  refine k_iconst (v := 2) B (by decide) dX13_counted_88 ?_
  refine k_aload_n B 0 rfl rfl dX13_counted_89 ?_
  refine k_getI (f := 906) (v := gI S 906 v0) B 14 10 rfl (by decide) rfl (by decide) rfl rfl (fun w h => in_of (uw_14 w h)) (in_of qfRX13_111) dX13_counted_90 h1 rfl ?_
  refine k_iast (g := va_up (va_up (rI S t0) (0 : Int32).toNatClampNeg (gI S 832 x1)) (1 : Int32).toNatClampNeg (gI S 900 v0)) (S' := sRI S t0 (va_up (va_up (va_up (rI S t0) (0 : Int32).toNatClampNeg (gI S 832 x1)) (1 : Int32).toNatClampNeg (gI S 900 v0)) (2 : Int32).toNatClampNeg (gI S 906 v0))) B dX13_counted_93 h4 h7 (by simp [kd_sI, kd_sP, kd_sRI, kd_sRP, kd_nw, gI_sI, gI_sP, gI_sRI, gI_sRP, gI_nw, gP_sI, gP_sP, gP_sRI, gP_sRP, gP_nw, ln_sI, ln_sP, ln_sRI, ln_sRP, ln_nw, rI_sI, rI_sP, rI_sRI, rI_sRP, rI_nw, rP_sI, rP_sP, rP_sRI, rP_sRP, rP_nw, va_up_self]) (sRI_sRI ..) ?_
  refine k_dup B rfl dX13_counted_94 ?_
  refine k_iconst (v := 3) B (by decide) dX13_counted_95 ?_
  refine k_aload_n B 0 rfl rfl dX13_counted_96 ?_
  refine k_getI (f := 909) (v := gI S 909 v0) B 14 13 rfl (by decide) rfl (by decide) rfl rfl (fun w h => in_of (uw_14 w h)) (in_of qfRX13_114) dX13_counted_97 h1 rfl ?_
  refine k_iast (g := va_up (va_up (va_up (rI S t0) (0 : Int32).toNatClampNeg (gI S 832 x1)) (1 : Int32).toNatClampNeg (gI S 900 v0)) (2 : Int32).toNatClampNeg (gI S 906 v0)) (S' := sRI S t0 (va_up (va_up (va_up (va_up (rI S t0) (0 : Int32).toNatClampNeg (gI S 832 x1)) (1 : Int32).toNatClampNeg (gI S 900 v0)) (2 : Int32).toNatClampNeg (gI S 906 v0)) (3 : Int32).toNatClampNeg (gI S 909 v0))) B dX13_counted_100 h4 h8 (by simp [kd_sI, kd_sP, kd_sRI, kd_sRP, kd_nw, gI_sI, gI_sP, gI_sRI, gI_sRP, gI_nw, gP_sI, gP_sP, gP_sRI, gP_sRP, gP_nw, ln_sI, ln_sP, ln_sRI, ln_sRP, ln_nw, rI_sI, rI_sP, rI_sRI, rI_sRP, rI_nw, rP_sI, rP_sP, rP_sRI, rP_sRP, rP_nw, va_up_self]) (sRI_sRI ..) ?_
  refine k_dup B rfl dX13_counted_101 ?_
  refine k_iconst (v := 4) B (by decide) dX13_counted_102 ?_
  refine k_aload_n B 0 rfl rfl dX13_counted_103 ?_
  refine k_getI (f := 913) (v := gI S 913 v0) B 14 17 rfl (by decide) rfl (by decide) rfl rfl (fun w h => in_of (uw_14 w h)) (in_of qfRX13_117) dX13_counted_104 h1 rfl ?_
  refine k_iast (g := va_up (va_up (va_up (va_up (rI S t0) (0 : Int32).toNatClampNeg (gI S 832 x1)) (1 : Int32).toNatClampNeg (gI S 900 v0)) (2 : Int32).toNatClampNeg (gI S 906 v0)) (3 : Int32).toNatClampNeg (gI S 909 v0)) (S' := sRI S t0 (va_up (va_up (va_up (va_up (va_up (rI S t0) (0 : Int32).toNatClampNeg (gI S 832 x1)) (1 : Int32).toNatClampNeg (gI S 900 v0)) (2 : Int32).toNatClampNeg (gI S 906 v0)) (3 : Int32).toNatClampNeg (gI S 909 v0)) (4 : Int32).toNatClampNeg (gI S 913 v0))) B dX13_counted_107 h4 h9 (by simp [kd_sI, kd_sP, kd_sRI, kd_sRP, kd_nw, gI_sI, gI_sP, gI_sRI, gI_sRP, gI_nw, gP_sI, gP_sP, gP_sRI, gP_sRP, gP_nw, ln_sI, ln_sP, ln_sRI, ln_sRP, ln_nw, rI_sI, rI_sP, rI_sRI, rI_sRP, rI_nw, rP_sI, rP_sP, rP_sRI, rP_sRP, rP_nw, va_up_self]) (sRI_sRI ..) ?_
  refine k_dup B rfl dX13_counted_108 ?_
  refine k_iconst (v := 5) B (by decide) dX13_counted_109 ?_
  refine k_aload_n B 0 rfl rfl dX13_counted_110 ?_
  refine k_getP (f := 919) (r := gP S 919 v0) B 14 23 rfl (by decide) rfl (by decide) rfl rfl (fun w h => in_of (uw_14 w h)) (in_of qfRX13_70) dX13_counted_111 h1 rfl ?_
  rw [h10]; change K _ _ _ _ _ _ _ _ _ _ _ _ _ _ _ _ _ _ (.ref x2 :: _)
  refine k_iconst (v := 0) B (by decide) dX13_counted_114 ?_
  refine callV_I (st := [.int 5, .ref t0, .ref t0]) B [.int 0] (hc) (cwV 1 B.1.2.2.2.2 (gV qlRX13_255 qiX12_how qeX12_how qzRX12 qcX12_how) rfl rfl rfl (by decide +kernel) ⟨Nat.le_of_ble_eq_true rfl, Nat.le_of_ble_eq_true rfl⟩) rfl rfl (by decide) h13 (Nat.le_of_ble_eq_true rfl) rfl dX13_counted_115 ⟨h11, h12⟩ (fun r S' hp => ?_)
  exact kk r S' hp
theorem bX13_counted_118 (B : Bd p s m args meth c cX13_counted 5 (wsOf yX13_counted cX13_counted 5 (some .int)) RX13 w (some .int) "counted") {v0 : Nat} {v1 : Int32} {v2 : Int32} {v3 : Int32} {t0 : Nat} {t1 : Nat} {t2 : Int32} {t3 : Int32} {x1 : Nat} {post : Int32 → St → Prop} {k n : Nat} {Q : State → Prop} (h1 : kd S t1 = 21) (h2 : vp_in t2 (ln S t1)) (h3 : kd S t0 = 21) (h4 : vp_in 6 (ln S t0)) (h5 : kd S v0 = 15) (h6 : gP S 919 v0 = some x1) (hc : ConI l yX12_how (wsOf yX12_how cX12_how 4 (some .int)) rX12_how w (sRI (sRI S t1 (va_up (rI S t1) t2.toNatClampNeg t3)) t0 (va_up (rI (sRI S t1 (va_up (rI S t1) t2.toNatClampNeg t3)) t0) (6 : Int32).toNatClampNeg v2)) [.ref x1, .int 1] post) (h7 : k + 0 ≤ rX13_counted.cells) (h8 : n + 0 ≤ rX13_counted.slots) (h9 : kd S x1 = 14) (kk : ∀ (r : Int32) (S' : St), post r S' → K p l e rX13_counted s m args below meth c 5 w k n Q S' 135 [(0, .ref v0), (1, .int v1), (3, .int v3)] [.int r, .int 7, .ref t0, .ref t0]) : K p l e rX13_counted s m args below meth c 5 w k n Q S 118 [(0, .ref v0), (1, .int v1), (2, .int v2), (3, .int v3)] [.int t3, .int t2, .ref t1, .ref t0] := by
  refine k_iast (g := rI S t1) (S' := sRI S t1 (va_up (rI S t1) t2.toNatClampNeg t3)) B dX13_counted_118 h1 h2 rfl rfl ?_
  refine k_dup B rfl dX13_counted_119 ?_
  refine k_bipush (v := 6) B (by decide) dX13_counted_120 ?_
  refine k_iload_n B 2 rfl rfl dX13_counted_122 ?_
  refine k_iast (g := rI (sRI S t1 (va_up (rI S t1) t2.toNatClampNeg t3)) t0) (S' := sRI (sRI S t1 (va_up (rI S t1) t2.toNatClampNeg t3)) t0 (va_up (rI (sRI S t1 (va_up (rI S t1) t2.toNatClampNeg t3)) t0) (6 : Int32).toNatClampNeg v2)) B dX13_counted_123 h3 h4 rfl rfl ?_
  refine k_dup B rfl dX13_counted_124 ?_
  refine k_bipush (v := 7) B (by decide) dX13_counted_125 ?_
  refine k_aload_n B 0 rfl rfl dX13_counted_127 ?_
  refine k_getP (f := 919) (r := gP S 919 v0) B 14 23 rfl (by decide) rfl (by decide) rfl rfl (fun w h => in_of (uw_14 w h)) (in_of qfRX13_70) dX13_counted_128 h5 rfl ?_
  rw [h6]; change K _ _ _ _ _ _ _ _ _ _ _ _ _ _ _ _ _ _ (.ref x1 :: _)
  refine k_iconst (v := 1) B (by decide) dX13_counted_131 ?_
  refine callV_I (st := [.int 7, .ref t0, .ref t0]) B [.int 1] (hc) (cwV 1 B.1.2.2.2.2 (gV qlRX13_255 qiX12_how qeX12_how qzRX12 qcX12_how) rfl rfl rfl (by decide +kernel) ⟨Nat.le_of_ble_eq_true rfl, Nat.le_of_ble_eq_true rfl⟩) rfl rfl (by decide) h9 (Nat.le_of_ble_eq_true rfl) rfl dX13_counted_132 ⟨h7, h8⟩ (fun r S' hp => ?_)
  refine k_sub [0, 1, 3] rfl ?_
  exact kk r S' hp
theorem bX13_counted_135 (B : Bd p s m args meth c cX13_counted 5 (wsOf yX13_counted cX13_counted 5 (some .int)) RX13 w (some .int) "counted") {v0 : Nat} {v1 : Int32} {v3 : Int32} {t0 : Nat} {t1 : Nat} {t2 : Int32} {t3 : Int32} {x1 : Nat} {post : Int32 → St → Prop} {k n : Nat} {Q : State → Prop} (h1 : kd S t1 = 21) (h2 : vp_in t2 (ln S t1)) (h3 : kd S v0 = 15) (h4 : gP S 919 v0 = some x1) (hc : ConI l yX12_how (wsOf yX12_how cX12_how 4 (some .int)) rX12_how w (sRI S t1 (va_up (rI S t1) t2.toNatClampNeg t3)) [.ref x1, .int 2] post) (h5 : k + 0 ≤ rX13_counted.cells) (h6 : n + 0 ≤ rX13_counted.slots) (h7 : kd S x1 = 14) (kk : ∀ (r : Int32) (S' : St), post r S' → K p l e rX13_counted s m args below meth c 5 w k n Q S' 147 [(0, .ref v0), (1, .int v1), (3, .int v3)] [.int r, .int 8, .ref t0, .ref t0]) : K p l e rX13_counted s m args below meth c 5 w k n Q S 135 [(0, .ref v0), (1, .int v1), (3, .int v3)] [.int t3, .int t2, .ref t1, .ref t0] := by
  refine k_iast (g := rI S t1) (S' := sRI S t1 (va_up (rI S t1) t2.toNatClampNeg t3)) B dX13_counted_135 h1 h2 rfl rfl ?_
  refine k_dup B rfl dX13_counted_136 ?_
  refine k_bipush (v := 8) B (by decide) dX13_counted_137 ?_
  refine k_aload_n B 0 rfl rfl dX13_counted_139 ?_
  refine k_getP (f := 919) (r := gP S 919 v0) B 14 23 rfl (by decide) rfl (by decide) rfl rfl (fun w h => in_of (uw_14 w h)) (in_of qfRX13_70) dX13_counted_140 h3 rfl ?_
  rw [h4]; change K _ _ _ _ _ _ _ _ _ _ _ _ _ _ _ _ _ _ (.ref x1 :: _)
  refine k_iconst (v := 2) B (by decide) dX13_counted_143 ?_
  refine callV_I (st := [.int 8, .ref t0, .ref t0]) B [.int 2] (hc) (cwV 1 B.1.2.2.2.2 (gV qlRX13_255 qiX12_how qeX12_how qzRX12 qcX12_how) rfl rfl rfl (by decide +kernel) ⟨Nat.le_of_ble_eq_true rfl, Nat.le_of_ble_eq_true rfl⟩) rfl rfl (by decide) h7 (Nat.le_of_ble_eq_true rfl) rfl dX13_counted_144 ⟨h5, h6⟩ (fun r S' hp => ?_)
  exact kk r S' hp
theorem bX13_counted_147 (B : Bd p s m args meth c cX13_counted 5 (wsOf yX13_counted cX13_counted 5 (some .int)) RX13 w (some .int) "counted") {v0 : Nat} {v1 : Int32} {v3 : Int32} {t0 : Nat} {t1 : Nat} {t2 : Int32} {t3 : Int32} {x1 : Nat} {post : Int32 → St → Prop} {k n : Nat} {Q : State → Prop} (h1 : kd S t1 = 21) (h2 : vp_in t2 (ln S t1)) (h3 : kd S v0 = 15) (h4 : gP S 919 v0 = some x1) (hc : ConI l yX12_how (wsOf yX12_how cX12_how 4 (some .int)) rX12_how w (sRI S t1 (va_up (rI S t1) t2.toNatClampNeg t3)) [.ref x1, .int 3] post) (h5 : k + 0 ≤ rX13_counted.cells) (h6 : n + 0 ≤ rX13_counted.slots) (h7 : kd S x1 = 14) (kk : ∀ (r : Int32) (S' : St), post r S' → K p l e rX13_counted s m args below meth c 5 w k n Q S' 159 [(0, .ref v0), (1, .int v1), (3, .int v3)] [.int r, .int 9, .ref t0, .ref t0]) : K p l e rX13_counted s m args below meth c 5 w k n Q S 147 [(0, .ref v0), (1, .int v1), (3, .int v3)] [.int t3, .int t2, .ref t1, .ref t0] := by
  refine k_iast (g := rI S t1) (S' := sRI S t1 (va_up (rI S t1) t2.toNatClampNeg t3)) B dX13_counted_147 h1 h2 rfl rfl ?_
  refine k_dup B rfl dX13_counted_148 ?_
  refine k_bipush (v := 9) B (by decide) dX13_counted_149 ?_
  refine k_aload_n B 0 rfl rfl dX13_counted_151 ?_
  refine k_getP (f := 919) (r := gP S 919 v0) B 14 23 rfl (by decide) rfl (by decide) rfl rfl (fun w h => in_of (uw_14 w h)) (in_of qfRX13_70) dX13_counted_152 h3 rfl ?_
  rw [h4]; change K _ _ _ _ _ _ _ _ _ _ _ _ _ _ _ _ _ _ (.ref x1 :: _)
  refine k_iconst (v := 3) B (by decide) dX13_counted_155 ?_
  refine callV_I (st := [.int 9, .ref t0, .ref t0]) B [.int 3] (hc) (cwV 1 B.1.2.2.2.2 (gV qlRX13_255 qiX12_how qeX12_how qzRX12 qcX12_how) rfl rfl rfl (by decide +kernel) ⟨Nat.le_of_ble_eq_true rfl, Nat.le_of_ble_eq_true rfl⟩) rfl rfl (by decide) h7 (Nat.le_of_ble_eq_true rfl) rfl dX13_counted_156 ⟨h5, h6⟩ (fun r S' hp => ?_)
  exact kk r S' hp
theorem bX13_counted_159 (B : Bd p s m args meth c cX13_counted 5 (wsOf yX13_counted cX13_counted 5 (some .int)) RX13 w (some .int) "counted") {v0 : Nat} {v1 : Int32} {v3 : Int32} {t0 : Nat} {t1 : Nat} {t2 : Int32} {t3 : Int32} {x1 : Nat} {post : Int32 → St → Prop} {k n : Nat} {Q : State → Prop} (h1 : kd S t1 = 21) (h2 : vp_in t2 (ln S t1)) (h3 : kd S v0 = 15) (h4 : gP S 919 v0 = some x1) (hc : ConI l yX12_how (wsOf yX12_how cX12_how 4 (some .int)) rX12_how w (sRI S t1 (va_up (rI S t1) t2.toNatClampNeg t3)) [.ref x1, .int 4] post) (h5 : k + 0 ≤ rX13_counted.cells) (h6 : n + 0 ≤ rX13_counted.slots) (h7 : kd S x1 = 14) (kk : ∀ (r : Int32) (S' : St), post r S' → K p l e rX13_counted s m args below meth c 5 w k n Q S' 171 [(1, .int v1), (3, .int v3)] [.int r, .int 10, .ref t0, .ref t0]) : K p l e rX13_counted s m args below meth c 5 w k n Q S 159 [(0, .ref v0), (1, .int v1), (3, .int v3)] [.int t3, .int t2, .ref t1, .ref t0] := by
  refine k_iast (g := rI S t1) (S' := sRI S t1 (va_up (rI S t1) t2.toNatClampNeg t3)) B dX13_counted_159 h1 h2 rfl rfl ?_
  refine k_dup B rfl dX13_counted_160 ?_
  refine k_bipush (v := 10) B (by decide) dX13_counted_161 ?_
  refine k_aload_n B 0 rfl rfl dX13_counted_163 ?_
  refine k_getP (f := 919) (r := gP S 919 v0) B 14 23 rfl (by decide) rfl (by decide) rfl rfl (fun w h => in_of (uw_14 w h)) (in_of qfRX13_70) dX13_counted_164 h3 rfl ?_
  rw [h4]; change K _ _ _ _ _ _ _ _ _ _ _ _ _ _ _ _ _ _ (.ref x1 :: _)
  refine k_iconst (v := 4) B (by decide) dX13_counted_167 ?_
  refine callV_I (st := [.int 10, .ref t0, .ref t0]) B [.int 4] (hc) (cwV 1 B.1.2.2.2.2 (gV qlRX13_255 qiX12_how qeX12_how qzRX12 qcX12_how) rfl rfl rfl (by decide +kernel) ⟨Nat.le_of_ble_eq_true rfl, Nat.le_of_ble_eq_true rfl⟩) rfl rfl (by decide) h7 (Nat.le_of_ble_eq_true rfl) rfl dX13_counted_168 ⟨h5, h6⟩ (fun r S' hp => ?_)
  refine k_sub [1, 2] rfl ?_
  exact kk r S' hp
theorem bX13_counted_171 (B : Bd p s m args meth c cX13_counted 5 (wsOf yX13_counted cX13_counted 5 (some .int)) RX13 w (some .int) "counted") {v1 : Int32} {v3 : Int32} {t0 : Nat} {t1 : Nat} {t2 : Int32} {t3 : Int32} {k n : Nat} {Q : State → Prop} (h1 : kd S t1 = 21) (h2 : vp_in t2 (ln S t1)) (h3 : kd S t0 = 21) (h4 : vp_in 11 (ln S t0)) (kk : K p l e rX13_counted s m args below meth c 5 w k n Q (sRI (sRI S t1 (va_up (rI S t1) t2.toNatClampNeg t3)) t0 (va_up (rI (sRI S t1 (va_up (rI S t1) t2.toNatClampNeg t3)) t0) (11 : Int32).toNatClampNeg v3)) 177 [(1, .int v1)] [.ref t0]) : K p l e rX13_counted s m args below meth c 5 w k n Q S 171 [(1, .int v1), (3, .int v3)] [.int t3, .int t2, .ref t1, .ref t0] := by
  refine k_iast (g := rI S t1) (S' := sRI S t1 (va_up (rI S t1) t2.toNatClampNeg t3)) B dX13_counted_171 h1 h2 rfl rfl ?_
  refine k_dup B rfl dX13_counted_172 ?_
  refine k_bipush (v := 11) B (by decide) dX13_counted_173 ?_
  refine k_iload_n B 1 rfl rfl dX13_counted_175 ?_
  refine k_iast (g := rI (sRI S t1 (va_up (rI S t1) t2.toNatClampNeg t3)) t0) (S' := sRI (sRI S t1 (va_up (rI S t1) t2.toNatClampNeg t3)) t0 (va_up (rI (sRI S t1 (va_up (rI S t1) t2.toNatClampNeg t3)) t0) (11 : Int32).toNatClampNeg v3)) B dX13_counted_176 h3 h4 rfl rfl ?_
  refine k_sub [0] rfl ?_
  exact kk
theorem bX13_counted_177 (B : Bd p s m args meth c cX13_counted 5 (wsOf yX13_counted cX13_counted 5 (some .int)) RX13 w (some .int) "counted") {v1 : Int32} {t0 : Nat} {post : Int32 → St → Prop} {k n : Nat} (h1 : kd S t0 = 21) (h2 : vp_in v1 (ln S t0)) (hq : post ((rI S t0) v1.toNatClampNeg) S) : K p l e rX13_counted s m args below meth c 5 w k n (MQ below (va_Qi post (fun S' t => Hd w S' t.heap) (wA w)) args s k n (wA w)) S 177 [(1, .int v1)] [.ref t0] := by
  refine k_astore (lst' := [(4, .ref t0), (1, .int v1)]) B (by decide) rfl dX13_counted_177 ?_
  refine k_aload B 0 rfl dX13_counted_179 ?_
  refine k_iload_n B 1 rfl rfl dX13_counted_181 ?_
  refine k_iald (v := (rI S t0) v1.toNatClampNeg) B dX13_counted_182 h1 h2 rfl ?_
  exact ret_I B rfl dX13_counted_183 (hq)
theorem bX13_count_0 (B : Bd p s m args meth c cX13_count 2 (wsOf yX13_count cX13_count 2 (some .int)) RX13 w (some .int) "count") {v0 : Nat} {v1 : Int32} {post : Int32 → St → Prop} {k n : Nat} {Q : State → Prop} (h1 : kd S v0 = 15) (hc : ConI l yX13_isIn (wsOf yX13_isIn cX13_isIn 3 (some .boolean)) rX13_isIn w (sI S 896 v0 0) [.int v1, .int 0, .int 11] post) (h2 : k + 0 ≤ rX13_count.cells) (h3 : n + 0 ≤ rX13_count.slots) (kk : ∀ (r : Int32) (S' : St), post r S' → K p l e rX13_count s m args below meth c 2 w k n Q S' 12 [(0, .ref v0), (1, .int v1)] [.int r]) : K p l e rX13_count s m args below meth c 2 w k n Q S 0 [(0, .ref v0), (1, .int v1)] [] := by
  refine k_aload_n B 0 rfl rfl dX13_count_0 ?_
  refine k_iconst (v := 0) B (by decide) dX13_count_1 ?_
  refine k_putI (f := 896) B 14 0 rfl (by decide) rfl (by decide) rfl rfl (fun w h => in_of (uw_14 w h)) (in_of qfRX13_95) tyX13 tyX13_ok nmX13 rfl (tyX13_ok 0 (by decide)) dX13_count_2 h1 ?_
  refine k_iload_n B 1 rfl rfl dX13_count_5 ?_
  refine k_iconst (v := 0) B (by decide) dX13_count_6 ?_
  refine k_bipush (v := 11) B (by decide) dX13_count_7 ?_
  refine callS_I (st := []) B [.int v1, .int 0, .int 11] (hc) (va_cwS 3 B.1.2.2.2.2 (gS qlRX13_98 qsX13_isIn qzRX13 qcX13_isIn) rfl rfl rfl (by decide +kernel) ⟨Nat.le_of_ble_eq_true rfl, Nat.le_of_ble_eq_true rfl⟩) rfl (Nat.le_of_ble_eq_true rfl) rfl dX13_count_9 ⟨h2, h3⟩ (fun r S' hp => ?_)
  exact kk r S' hp
theorem bX13_count_12 (B : Bd p s m args meth c cX13_count 2 (wsOf yX13_count cX13_count 2 (some .int)) RX13 w (some .int) "count") {v0 : Nat} {v1 : Int32} {t0 : Int32} {k n : Nat} {Q : State → Prop}  (kt : t0 = 0 → K p l e rX13_count s m args below meth c 2 w k n Q S 23 [(0, .ref v0)] []) (kf : ¬ t0 = 0 → K p l e rX13_count s m args below meth c 2 w k n Q S 15 [(0, .ref v0), (1, .int v1)] []) : K p l e rX13_count s m args below meth c 2 w k n Q S 12 [(0, .ref v0), (1, .int v1)] [.int t0] := by
  refine k_if_eq (tgt := 23) B dX13_count_12 (by decide) (fun c => ?_) (fun c => ?_)
  · refine k_sub [0] rfl ?_
    exact kt c
  · exact kf c
theorem bX13_count_15 (B : Bd p s m args meth c cX13_count 2 (wsOf yX13_count cX13_count 2 (some .int)) RX13 w (some .int) "count") {v0 : Nat} {v1 : Int32} {post : Int32 → St → Prop} {k n : Nat} {Q : State → Prop} (hc : ConI l yX13_counted (wsOf yX13_counted cX13_counted 5 (some .int)) rX13_counted w S [.ref v0, .int v1] post) (h1 : k + 1 ≤ rX13_count.cells) (h2 : n + 12 ≤ rX13_count.slots) (h3 : kd S v0 = 15) (kk : ∀ (r : Int32) (S' : St), post r S' → K p l e rX13_count s m args below meth c 2 w (k + 1) (n + 12) Q S' 20 [] [.int r]) : K p l e rX13_count s m args below meth c 2 w k n Q S 15 [(0, .ref v0), (1, .int v1)] [] := by
  refine k_aload_n B 0 rfl rfl dX13_count_15 ?_
  refine k_iload_n B 1 rfl rfl dX13_count_16 ?_
  refine callV_I (st := []) B [.int v1] (hc) (cwV 1 B.1.2.2.2.2 (gV qlRX13_257 qiX13_counted qeX13_counted qzRX13 qcX13_counted) rfl rfl rfl (by decide +kernel) ⟨Nat.le_of_ble_eq_true rfl, Nat.le_of_ble_eq_true rfl⟩) rfl rfl (by decide) h3 (Nat.le_of_ble_eq_true rfl) rfl dX13_count_17 ⟨h1, h2⟩ (fun r S' hp => ?_)
  refine k_sub [] rfl ?_
  exact kk r S' hp
theorem bX13_count_20 (B : Bd p s m args meth c cX13_count 2 (wsOf yX13_count cX13_count 2 (some .int)) RX13 w (some .int) "count") {t0 : Int32} {k n : Nat} {Q : State → Prop}  (kk : K p l e rX13_count s m args below meth c 2 w k n Q S 28 [] [.int t0]) : K p l e rX13_count s m args below meth c 2 w k n Q S 20 [] [.int t0] := by
  refine k_goto (tgt := 28) B dX13_count_20 (by decide) ?_
  exact kk
theorem bX13_count_23 (B : Bd p s m args meth c cX13_count 2 (wsOf yX13_count cX13_count 2 (some .int)) RX13 w (some .int) "count") {v0 : Nat} {post : Int32 → St → Prop} {k n : Nat} {Q : State → Prop} (hc : ConI l yX13_no (wsOf yX13_no cX13_no 2 (some .int)) rX13_no w S [.ref v0, .int 1] post) (h1 : k + 0 ≤ rX13_count.cells) (h2 : n + 0 ≤ rX13_count.slots) (h3 : kd S v0 = 15) (kk : ∀ (r : Int32) (S' : St), post r S' → K p l e rX13_count s m args below meth c 2 w k n Q S' 28 [] [.int r]) : K p l e rX13_count s m args below meth c 2 w k n Q S 23 [(0, .ref v0)] [] := by
  refine k_aload_n B 0 rfl rfl dX13_count_23 ?_
  refine k_iconst (v := 1) B (by decide) dX13_count_24 ?_
  refine callV_I (st := []) B [.int 1] (hc) (cwV 1 B.1.2.2.2.2 (gV qlRX13_120 qiX13_no qeX13_no qzRX13 qcX13_no) rfl rfl rfl (by decide +kernel) ⟨Nat.le_of_ble_eq_true rfl, Nat.le_of_ble_eq_true rfl⟩) rfl rfl (by decide) h3 (Nat.le_of_ble_eq_true rfl) rfl dX13_count_25 ⟨h1, h2⟩ (fun r S' hp => ?_)
  refine k_sub [] rfl ?_
  exact kk r S' hp
theorem bX13_count_28 (B : Bd p s m args meth c cX13_count 2 (wsOf yX13_count cX13_count 2 (some .int)) RX13 w (some .int) "count") {t0 : Int32} {post : Int32 → St → Prop} {k n : Nat}  (hq : post t0 S) : K p l e rX13_count s m args below meth c 2 w k n (MQ below (va_Qi post (fun S' t => Hd w S' t.heap) (wA w)) args s k n (wA w)) S 28 [] [.int t0] := by
  exact ret_I B rfl dX13_count_28 (hq)
theorem bX13_drive_0 (B : Bd p s m args meth c cX13_drive 1 (wsOf yX13_drive cX13_drive 1 (some .int)) RX13 w (some .int) "drive") {v0 : Nat} {x1 : Nat} {post : Int32 → St → Prop} {Q : State → Prop} (h1 : kd S v0 = 15) (h2 : gP S 919 v0 = some x1) (hc : ConI l yX12_drive (wsOf yX12_drive cX12_drive 4 (some .int)) rX12_drive w (sI S 896 v0 0) [.ref x1] post) (h3 : kd S x1 = 14) (kk : ∀ (r : Int32) (S' : St), post r S' → K p l e rX13_drive s m args below meth c 1 w 0 0 Q S' 12 [] [.int r]) : K p l e rX13_drive s m args below meth c 1 w 0 0 Q S 0 [(0, .ref v0)] [] := by
  refine k_aload_n B 0 rfl rfl dX13_drive_0 ?_
  refine k_iconst (v := 0) B (by decide) dX13_drive_1 ?_
  refine k_putI (f := 896) B 14 0 rfl (by decide) rfl (by decide) rfl rfl (fun w h => in_of (uw_14 w h)) (in_of qfRX13_95) tyX13 tyX13_ok nmX13 rfl (tyX13_ok 0 (by decide)) dX13_drive_2 h1 ?_
  refine k_aload_n B 0 rfl rfl dX13_drive_5 ?_
  refine k_getP (f := 919) (r := gP S 919 v0) B 14 23 rfl (by decide) rfl (by decide) rfl rfl (fun w h => in_of (uw_14 w h)) (in_of qfRX13_70) dX13_drive_6 h1 rfl ?_
  rw [h2]; change K _ _ _ _ _ _ _ _ _ _ _ _ _ _ _ _ _ _ (.ref x1 :: _)
  refine callV_I (st := []) B [] (hc) (cwV 0 B.1.2.2.2.2 (gV qlRX13_260 qiX12_drive qeX12_drive qzRX12 qcX12_drive) rfl rfl rfl (by decide +kernel) ⟨Nat.le_of_ble_eq_true rfl, Nat.le_of_ble_eq_true rfl⟩) rfl rfl (by decide) h3 (Nat.le_of_ble_eq_true rfl) rfl dX13_drive_9 ⟨Nat.le_of_ble_eq_true rfl, Nat.le_of_ble_eq_true rfl⟩ (fun r S' hp => ?_)
  refine k_sub [] rfl ?_
  exact kk r S' hp
theorem bX13_drive_12 (B : Bd p s m args meth c cX13_drive 1 (wsOf yX13_drive cX13_drive 1 (some .int)) RX13 w (some .int) "drive") {t0 : Int32} {post : Int32 → St → Prop}  (hq : post t0 S) : K p l e rX13_drive s m args below meth c 1 w 0 0 (MQ below (va_Qi post (fun S' t => Hd w S' t.heap) (wA w)) args s 0 0 (wA w)) S 12 [] [.int t0] := by
  exact ret_I B rfl dX13_drive_12 (hq)
theorem bX13_foresee_0 (B : Bd p s m args meth c cX13_foresee 3 (wsOf yX13_foresee cX13_foresee 3 (some .int)) RX13 w (some .int) "foresee") {v0 : Nat} {v1 : Int32} {post : Int32 → St → Prop} {Q : State → Prop} (h1 : kd S v0 = 15) (hc : ConI l yX13_isIn (wsOf yX13_isIn cX13_isIn 3 (some .boolean)) rX13_isIn w (sI S 896 v0 0) [.int v1, .int 0, .int 2] post) (kk : ∀ (r : Int32) (S' : St), post r S' → K p l e rX13_foresee s m args below meth c 3 w 0 0 Q S' 11 [(0, .ref v0), (1, .int v1)] [.int r]) : K p l e rX13_foresee s m args below meth c 3 w 0 0 Q S 0 [(0, .ref v0), (1, .int v1)] [] := by
  refine k_aload_n B 0 rfl rfl dX13_foresee_0 ?_
  refine k_iconst (v := 0) B (by decide) dX13_foresee_1 ?_
  refine k_putI (f := 896) B 14 0 rfl (by decide) rfl (by decide) rfl rfl (fun w h => in_of (uw_14 w h)) (in_of qfRX13_95) tyX13 tyX13_ok nmX13 rfl (tyX13_ok 0 (by decide)) dX13_foresee_2 h1 ?_
  refine k_iload_n B 1 rfl rfl dX13_foresee_5 ?_
  refine k_iconst (v := 0) B (by decide) dX13_foresee_6 ?_
  refine k_iconst (v := 2) B (by decide) dX13_foresee_7 ?_
  refine callS_I (st := []) B [.int v1, .int 0, .int 2] (hc) (va_cwS 3 B.1.2.2.2.2 (gS qlRX13_98 qsX13_isIn qzRX13 qcX13_isIn) rfl rfl rfl (by decide +kernel) ⟨Nat.le_of_ble_eq_true rfl, Nat.le_of_ble_eq_true rfl⟩) rfl (Nat.le_of_ble_eq_true rfl) rfl dX13_foresee_8 ⟨Nat.le_of_ble_eq_true rfl, Nat.le_of_ble_eq_true rfl⟩ (fun r S' hp => ?_)
  exact kk r S' hp
theorem bX13_foresee_11 (B : Bd p s m args meth c cX13_foresee 3 (wsOf yX13_foresee cX13_foresee 3 (some .int)) RX13 w (some .int) "foresee") {v0 : Nat} {v1 : Int32} {t0 : Int32} {Q : State → Prop}  (kt : ¬ t0 = 0 → K p l e rX13_foresee s m args below meth c 3 w 0 0 Q S 20 [(0, .ref v0), (1, .int v1)] []) (kf : t0 = 0 → K p l e rX13_foresee s m args below meth c 3 w 0 0 Q S 14 [(0, .ref v0)] []) : K p l e rX13_foresee s m args below meth c 3 w 0 0 Q S 11 [(0, .ref v0), (1, .int v1)] [.int t0] := by
  refine k_if_ne (tgt := 20) B dX13_foresee_11 (by decide) (fun c => ?_) (fun c => ?_)
  · exact kt c
  · refine k_sub [0] rfl ?_
    exact kf c
theorem bX13_foresee_14 (B : Bd p s m args meth c cX13_foresee 3 (wsOf yX13_foresee cX13_foresee 3 (some .int)) RX13 w (some .int) "foresee") {v0 : Nat} {post : Int32 → St → Prop} {Q : State → Prop} (hc : ConI l yX13_no (wsOf yX13_no cX13_no 2 (some .int)) rX13_no w S [.ref v0, .int 1] post) (h1 : kd S v0 = 15) (kk : ∀ (r : Int32) (S' : St), post r S' → K p l e rX13_foresee s m args below meth c 3 w 0 0 Q S' 19 [] [.int r]) : K p l e rX13_foresee s m args below meth c 3 w 0 0 Q S 14 [(0, .ref v0)] [] := by
  refine k_aload_n B 0 rfl rfl dX13_foresee_14 ?_
  refine k_iconst (v := 1) B (by decide) dX13_foresee_15 ?_
  refine callV_I (st := []) B [.int 1] (hc) (cwV 1 B.1.2.2.2.2 (gV qlRX13_120 qiX13_no qeX13_no qzRX13 qcX13_no) rfl rfl rfl (by decide +kernel) ⟨Nat.le_of_ble_eq_true rfl, Nat.le_of_ble_eq_true rfl⟩) rfl rfl (by decide) h1 (Nat.le_of_ble_eq_true rfl) rfl dX13_foresee_16 ⟨Nat.le_of_ble_eq_true rfl, Nat.le_of_ble_eq_true rfl⟩ (fun r S' hp => ?_)
  refine k_sub [] rfl ?_
  exact kk r S' hp
theorem bX13_foresee_19 (B : Bd p s m args meth c cX13_foresee 3 (wsOf yX13_foresee cX13_foresee 3 (some .int)) RX13 w (some .int) "foresee") {t0 : Int32} {post : Int32 → St → Prop}  (hq : post t0 S) : K p l e rX13_foresee s m args below meth c 3 w 0 0 (MQ below (va_Qi post (fun S' t => Hd w S' t.heap) (wA w)) args s 0 0 (wA w)) S 19 [] [.int t0] := by
  exact ret_I B rfl dX13_foresee_19 (hq)
theorem bX13_foresee_20 (B : Bd p s m args meth c cX13_foresee 3 (wsOf yX13_foresee cX13_foresee 3 (some .int)) RX13 w (some .int) "foresee") {v0 : Nat} {v1 : Int32} {x1 : Nat} {x2 : Nat} {post : St → Prop} {Q : State → Prop} (h1 : kd S v0 = 15) (h2 : gP S 920 v0 = some x1) (h3 : gP S 919 v0 = some x2) (hc : ConV l yX12_become (wsOf yX12_become cX12_become 2 none) rX12_become w S [.ref x1, .ref x2] post) (h4 : kd S x1 = 14) (kk : ∀ (S' : St), post S' → K p l e rX13_foresee s m args below meth c 3 w 0 0 Q S' 31 [(0, .ref v0), (1, .int v1)] []) : K p l e rX13_foresee s m args below meth c 3 w 0 0 Q S 20 [(0, .ref v0), (1, .int v1)] [] := by
  refine k_aload_n B 0 rfl rfl dX13_foresee_20 ?_
  refine k_getP (f := 920) (r := gP S 920 v0) B 14 24 rfl (by decide) rfl (by decide) rfl rfl (fun w h => in_of (uw_14 w h)) (in_of qfRX13_74) dX13_foresee_21 h1 rfl ?_
  rw [h2]; change K _ _ _ _ _ _ _ _ _ _ _ _ _ _ _ _ _ _ (.ref x1 :: _)
  refine k_aload_n B 0 rfl rfl dX13_foresee_24 ?_
  refine k_getP (f := 919) (r := gP S 919 v0) B 14 23 rfl (by decide) rfl (by decide) rfl rfl (fun w h => in_of (uw_14 w h)) (in_of qfRX13_70) dX13_foresee_25 h1 rfl ?_
  rw [h3]; change K _ _ _ _ _ _ _ _ _ _ _ _ _ _ _ _ _ _ (.ref x2 :: _)
  refine callV_V (st := []) B [.ref x2] (hc) (cwV 1 B.1.2.2.2.2 (gV qlRX13_264 qiX12_become qeX12_become qzRX12 qcX12_become) rfl rfl rfl (by decide +kernel) ⟨Nat.le_of_ble_eq_true rfl, Nat.le_of_ble_eq_true rfl⟩) rfl rfl (by decide) h4 (Nat.le_of_ble_eq_true rfl) rfl dX13_foresee_28 ⟨Nat.le_of_ble_eq_true rfl, Nat.le_of_ble_eq_true rfl⟩ (fun S' hp => ?_)
  exact kk S' hp
theorem bX13_foresee_31 (B : Bd p s m args meth c cX13_foresee 3 (wsOf yX13_foresee cX13_foresee 3 (some .int)) RX13 w (some .int) "foresee") {v0 : Nat} {v1 : Int32} {x1 : Nat} {post : Int32 → St → Prop} {Q : State → Prop} (h1 : kd S v0 = 15) (h2 : gP S 920 v0 = some x1) (hc : ConI l yX12_drive (wsOf yX12_drive cX12_drive 4 (some .int)) rX12_drive w S [.ref x1] post) (h3 : kd S x1 = 14) (kk : ∀ (r : Int32) (S' : St), post r S' → K p l e rX13_foresee s m args below meth c 3 w 0 0 Q S' 38 [(0, .ref v0), (1, .int v1)] [.int r]) : K p l e rX13_foresee s m args below meth c 3 w 0 0 Q S 31 [(0, .ref v0), (1, .int v1)] [] := by
  refine k_aload_n B 0 rfl rfl dX13_foresee_31 ?_
  refine k_getP (f := 920) (r := gP S 920 v0) B 14 24 rfl (by decide) rfl (by decide) rfl rfl (fun w h => in_of (uw_14 w h)) (in_of qfRX13_74) dX13_foresee_32 h1 rfl ?_
  rw [h2]; change K _ _ _ _ _ _ _ _ _ _ _ _ _ _ _ _ _ _ (.ref x1 :: _)
  refine callV_I (st := []) B [] (hc) (cwV 0 B.1.2.2.2.2 (gV qlRX13_260 qiX12_drive qeX12_drive qzRX12 qcX12_drive) rfl rfl rfl (by decide +kernel) ⟨Nat.le_of_ble_eq_true rfl, Nat.le_of_ble_eq_true rfl⟩) rfl rfl (by decide) h3 (Nat.le_of_ble_eq_true rfl) rfl dX13_foresee_35 ⟨Nat.le_of_ble_eq_true rfl, Nat.le_of_ble_eq_true rfl⟩ (fun r S' hp => ?_)
  exact kk r S' hp
theorem bX13_foresee_38 (B : Bd p s m args meth c cX13_foresee 3 (wsOf yX13_foresee cX13_foresee 3 (some .int)) RX13 w (some .int) "foresee") {v0 : Nat} {v1 : Int32} {t0 : Int32} {Q : State → Prop}  (kt : ¬ v1 = 0 → K p l e rX13_foresee s m args below meth c 3 w 0 0 Q S 47 [(0, .ref v0), (1, .int v1)] []) (kf : v1 = 0 → K p l e rX13_foresee s m args below meth c 3 w 0 0 Q S 43 [(2, .int t0)] []) : K p l e rX13_foresee s m args below meth c 3 w 0 0 Q S 38 [(0, .ref v0), (1, .int v1)] [.int t0] := by
  refine k_istore_n (lst' := [(2, .int t0), (0, .ref v0), (1, .int v1)]) B rfl (by decide) rfl dX13_foresee_38 ?_
  refine k_iload_n B 2 rfl rfl dX13_foresee_39 ?_
  refine k_if_ne (tgt := 47) B dX13_foresee_40 (by decide) (fun c => ?_) (fun c => ?_)
  · refine k_sub [1, 2] rfl ?_
    exact kt c
  · refine k_sub [0] rfl ?_
    exact kf c
theorem bX13_foresee_43 (B : Bd p s m args meth c cX13_foresee 3 (wsOf yX13_foresee cX13_foresee 3 (some .int)) RX13 w (some .int) "foresee") {v2 : Int32} {Q : State → Prop}  (kk : K p l e rX13_foresee s m args below meth c 3 w 0 0 Q S 79 [] [.int v2]) : K p l e rX13_foresee s m args below meth c 3 w 0 0 Q S 43 [(2, .int v2)] [] := by
  refine k_iload_n B 0 rfl rfl dX13_foresee_43 ?_
  refine k_goto (tgt := 79) B dX13_foresee_44 (by decide) ?_
  refine k_sub [] rfl ?_
  exact kk
theorem bX13_foresee_47 (B : Bd p s m args meth c cX13_foresee 3 (wsOf yX13_foresee cX13_foresee 3 (some .int)) RX13 w (some .int) "foresee") {v0 : Nat} {v1 : Int32} {Q : State → Prop}  (kt : ¬ v1 = 1 → K p l e rX13_foresee s m args below meth c 3 w 0 0 Q S 72 [(0, .ref v0)] []) (kf : v1 = 1 → K p l e rX13_foresee s m args below meth c 3 w 0 0 Q S 52 [(0, .ref v0)] []) : K p l e rX13_foresee s m args below meth c 3 w 0 0 Q S 47 [(0, .ref v0), (1, .int v1)] [] := by
  refine k_iload_n B 1 rfl rfl dX13_foresee_47 ?_
  refine k_iconst (v := 1) B (by decide) dX13_foresee_48 ?_
  refine k_icmp_ne (tgt := 72) B dX13_foresee_49 (by decide) (fun c => ?_) (fun c => ?_)
  · refine k_sub [0] rfl ?_
    exact kt c
  · refine k_sub [0] rfl ?_
    exact kf c
theorem bX13_foresee_52 (B : Bd p s m args meth c cX13_foresee 3 (wsOf yX13_foresee cX13_foresee 3 (some .int)) RX13 w (some .int) "foresee") {v0 : Nat} {x1 : Nat} {post : Int32 → St → Prop} {Q : State → Prop} (h1 : kd S v0 = 15) (h2 : gP S 920 v0 = some x1) (hc : ConI l yX12_how (wsOf yX12_how cX12_how 4 (some .int)) rX12_how w S [.ref x1, .int 4] post) (h3 : kd S x1 = 14) (kk : ∀ (r : Int32) (S' : St), post r S' → K p l e rX13_foresee s m args below meth c 3 w 0 0 Q S' 60 [(0, .ref v0)] [.int r]) : K p l e rX13_foresee s m args below meth c 3 w 0 0 Q S 52 [(0, .ref v0)] [] := by
  refine k_aload_n B 0 rfl rfl dX13_foresee_52 ?_
  refine k_getP (f := 920) (r := gP S 920 v0) B 14 24 rfl (by decide) rfl (by decide) rfl rfl (fun w h => in_of (uw_14 w h)) (in_of qfRX13_74) dX13_foresee_53 h1 rfl ?_
  rw [h2]; change K _ _ _ _ _ _ _ _ _ _ _ _ _ _ _ _ _ _ (.ref x1 :: _)
  refine k_iconst (v := 4) B (by decide) dX13_foresee_56 ?_
  refine callV_I (st := []) B [.int 4] (hc) (cwV 1 B.1.2.2.2.2 (gV qlRX13_255 qiX12_how qeX12_how qzRX12 qcX12_how) rfl rfl rfl (by decide +kernel) ⟨Nat.le_of_ble_eq_true rfl, Nat.le_of_ble_eq_true rfl⟩) rfl rfl (by decide) h3 (Nat.le_of_ble_eq_true rfl) rfl dX13_foresee_57 ⟨Nat.le_of_ble_eq_true rfl, Nat.le_of_ble_eq_true rfl⟩ (fun r S' hp => ?_)
  exact kk r S' hp
theorem bX13_foresee_60 (B : Bd p s m args meth c cX13_foresee 3 (wsOf yX13_foresee cX13_foresee 3 (some .int)) RX13 w (some .int) "foresee") {v0 : Nat} {t0 : Int32} {x1 : Nat} {post : Int32 → St → Prop} {Q : State → Prop} (h1 : kd S v0 = 15) (h2 : gP S 919 v0 = some x1) (hc : ConI l yX12_how (wsOf yX12_how cX12_how 4 (some .int)) rX12_how w S [.ref x1, .int 4] post) (h3 : kd S x1 = 14) (kk : ∀ (r : Int32) (S' : St), post r S' → K p l e rX13_foresee s m args below meth c 3 w 0 0 Q S' 68 [] [.int r, .int t0]) : K p l e rX13_foresee s m args below meth c 3 w 0 0 Q S 60 [(0, .ref v0)] [.int t0] := by
  refine k_aload_n B 0 rfl rfl dX13_foresee_60 ?_
  refine k_getP (f := 919) (r := gP S 919 v0) B 14 23 rfl (by decide) rfl (by decide) rfl rfl (fun w h => in_of (uw_14 w h)) (in_of qfRX13_70) dX13_foresee_61 h1 rfl ?_
  rw [h2]; change K _ _ _ _ _ _ _ _ _ _ _ _ _ _ _ _ _ _ (.ref x1 :: _)
  refine k_iconst (v := 4) B (by decide) dX13_foresee_64 ?_
  refine callV_I (st := [.int t0]) B [.int 4] (hc) (cwV 1 B.1.2.2.2.2 (gV qlRX13_255 qiX12_how qeX12_how qzRX12 qcX12_how) rfl rfl rfl (by decide +kernel) ⟨Nat.le_of_ble_eq_true rfl, Nat.le_of_ble_eq_true rfl⟩) rfl rfl (by decide) h3 (Nat.le_of_ble_eq_true rfl) rfl dX13_foresee_65 ⟨Nat.le_of_ble_eq_true rfl, Nat.le_of_ble_eq_true rfl⟩ (fun r S' hp => ?_)
  refine k_sub [] rfl ?_
  exact kk r S' hp
theorem bX13_foresee_68 (B : Bd p s m args meth c cX13_foresee 3 (wsOf yX13_foresee cX13_foresee 3 (some .int)) RX13 w (some .int) "foresee") {t0 : Int32} {t1 : Int32} {Q : State → Prop}  (kk : K p l e rX13_foresee s m args below meth c 3 w 0 0 Q S 79 [] [.int (t0 - t1)]) : K p l e rX13_foresee s m args below meth c 3 w 0 0 Q S 68 [] [.int t1, .int t0] := by
  refine k_isub B dX13_foresee_68 ?_
  refine k_goto (tgt := 79) B dX13_foresee_69 (by decide) ?_
  exact kk
theorem bX13_foresee_72 (B : Bd p s m args meth c cX13_foresee 3 (wsOf yX13_foresee cX13_foresee 3 (some .int)) RX13 w (some .int) "foresee") {v0 : Nat} {x1 : Nat} {Q : State → Prop} (h1 : kd S v0 = 15) (h2 : gP S 920 v0 = some x1) (h3 : kd S x1 = 14) (kk : K p l e rX13_foresee s m args below meth c 3 w 0 0 Q S 79 [] [.int (gI S 833 x1)]) : K p l e rX13_foresee s m args below meth c 3 w 0 0 Q S 72 [(0, .ref v0)] [] := by
  refine k_aload_n B 0 rfl rfl dX13_foresee_72 ?_
  refine k_getP (f := 920) (r := gP S 920 v0) B 14 24 rfl (by decide) rfl (by decide) rfl rfl (fun w h => in_of (uw_14 w h)) (in_of qfRX13_74) dX13_foresee_73 h1 rfl ?_
  rw [h2]; change K _ _ _ _ _ _ _ _ _ _ _ _ _ _ _ _ _ _ (.ref x1 :: _)
  refine k_getIN (f := 833) (v := gI S 833 x1) B 13 1 rfl (by decide) rfl (by decide) rfl rfl (fun w h => in_of (uw_13 w h)) "LastMileModel" (nzF_8 B.2.2.2.1.2.2.2.1) dX13_foresee_76 h3 rfl ?_
  refine k_sub [] rfl ?_
  exact kk
theorem bX13_foresee_79 (B : Bd p s m args meth c cX13_foresee 3 (wsOf yX13_foresee cX13_foresee 3 (some .int)) RX13 w (some .int) "foresee") {t0 : Int32} {post : Int32 → St → Prop}  (hq : post t0 S) : K p l e rX13_foresee s m args below meth c 3 w 0 0 (MQ below (va_Qi post (fun S' t => Hd w S' t.heap) (wA w)) args s 0 0 (wA w)) S 79 [] [.int t0] := by
  exact ret_I B rfl dX13_foresee_79 (hq)
theorem bX13_hour_0 (B : Bd p s m args meth c cX13_hour 6 (wsOf yX13_hour cX13_hour 6 (some .int)) RX13 w (some .int) "hour") {v0 : Nat} {v1 : Int32} {post : Int32 → St → Prop} {Q : State → Prop} (h1 : kd S v0 = 15) (hc : ConI l yX13_isHomeNumber (wsOf yX13_isHomeNumber cX13_isHomeNumber 2 (some .boolean)) rX13_isHomeNumber w (sI S 896 v0 0) [.ref v0, .int v1] post) (kk : ∀ (r : Int32) (S' : St), post r S' → K p l e rX13_hour s m args below meth c 6 w 0 0 Q S' 10 [(0, .ref v0), (1, .int v1)] [.int r]) : K p l e rX13_hour s m args below meth c 6 w 0 0 Q S 0 [(0, .ref v0), (1, .int v1)] [] := by
  refine k_aload_n B 0 rfl rfl dX13_hour_0 ?_
  refine k_iconst (v := 0) B (by decide) dX13_hour_1 ?_
  refine k_putI (f := 896) B 14 0 rfl (by decide) rfl (by decide) rfl rfl (fun w h => in_of (uw_14 w h)) (in_of qfRX13_95) tyX13 tyX13_ok nmX13 rfl (tyX13_ok 0 (by decide)) dX13_hour_2 h1 ?_
  refine k_aload_n B 0 rfl rfl dX13_hour_5 ?_
  refine k_iload_n B 1 rfl rfl dX13_hour_6 ?_
  refine callV_I (st := []) B [.int v1] (hc) (cwV 1 B.1.2.2.2.2 (gV qlRX13_128 qiX13_isHomeNumber qeX13_isHomeNumber qzRX13 qcX13_isHomeNumber) rfl rfl rfl (by decide +kernel) ⟨Nat.le_of_ble_eq_true rfl, Nat.le_of_ble_eq_true rfl⟩) rfl rfl (by decide) h1 (Nat.le_of_ble_eq_true rfl) rfl dX13_hour_7 ⟨Nat.le_of_ble_eq_true rfl, Nat.le_of_ble_eq_true rfl⟩ (fun r S' hp => ?_)
  exact kk r S' hp
theorem bX13_hour_10 (B : Bd p s m args meth c cX13_hour 6 (wsOf yX13_hour cX13_hour 6 (some .int)) RX13 w (some .int) "hour") {v0 : Nat} {v1 : Int32} {t0 : Int32} {Q : State → Prop}  (kt : ¬ t0 = 0 → K p l e rX13_hour s m args below meth c 6 w 0 0 Q S 19 [(0, .ref v0), (1, .int v1)] []) (kf : t0 = 0 → K p l e rX13_hour s m args below meth c 6 w 0 0 Q S 13 [(0, .ref v0)] []) : K p l e rX13_hour s m args below meth c 6 w 0 0 Q S 10 [(0, .ref v0), (1, .int v1)] [.int t0] := by
  refine k_if_ne (tgt := 19) B dX13_hour_10 (by decide) (fun c => ?_) (fun c => ?_)
  · exact kt c
  · refine k_sub [0] rfl ?_
    exact kf c
theorem bX13_hour_13 (B : Bd p s m args meth c cX13_hour 6 (wsOf yX13_hour cX13_hour 6 (some .int)) RX13 w (some .int) "hour") {v0 : Nat} {post : Int32 → St → Prop} {Q : State → Prop} (hc : ConI l yX13_no (wsOf yX13_no cX13_no 2 (some .int)) rX13_no w S [.ref v0, .int 1] post) (h1 : kd S v0 = 15) (kk : ∀ (r : Int32) (S' : St), post r S' → K p l e rX13_hour s m args below meth c 6 w 0 0 Q S' 18 [] [.int r]) : K p l e rX13_hour s m args below meth c 6 w 0 0 Q S 13 [(0, .ref v0)] [] := by
  refine k_aload_n B 0 rfl rfl dX13_hour_13 ?_
  refine k_iconst (v := 1) B (by decide) dX13_hour_14 ?_
  refine callV_I (st := []) B [.int 1] (hc) (cwV 1 B.1.2.2.2.2 (gV qlRX13_120 qiX13_no qeX13_no qzRX13 qcX13_no) rfl rfl rfl (by decide +kernel) ⟨Nat.le_of_ble_eq_true rfl, Nat.le_of_ble_eq_true rfl⟩) rfl rfl (by decide) h1 (Nat.le_of_ble_eq_true rfl) rfl dX13_hour_15 ⟨Nat.le_of_ble_eq_true rfl, Nat.le_of_ble_eq_true rfl⟩ (fun r S' hp => ?_)
  refine k_sub [] rfl ?_
  exact kk r S' hp
theorem bX13_hour_18 (B : Bd p s m args meth c cX13_hour 6 (wsOf yX13_hour cX13_hour 6 (some .int)) RX13 w (some .int) "hour") {t0 : Int32} {post : Int32 → St → Prop}  (hq : post t0 S) : K p l e rX13_hour s m args below meth c 6 w 0 0 (MQ below (va_Qi post (fun S' t => Hd w S' t.heap) (wA w)) args s 0 0 (wA w)) S 18 [] [.int t0] := by
  exact ret_I B rfl dX13_hour_18 (hq)
theorem bX13_hour_19 (B : Bd p s m args meth c cX13_hour 6 (wsOf yX13_hour cX13_hour 6 (some .int)) RX13 w (some .int) "hour") {v0 : Nat} {v1 : Int32} {Q : State → Prop}  (kk : K p l e rX13_hour s m args below meth c 6 w 0 0 Q S 26 [(0, .ref v0), (1, .int v1), (2, .int (-1)), (3, .int 0), (4, .int 0)] []) : K p l e rX13_hour s m args below meth c 6 w 0 0 Q S 19 [(0, .ref v0), (1, .int v1)] [] := by
  refine k_iconst (v := (-1)) B (by decide) dX13_hour_19 ?_
  refine k_istore_n (lst' := [(2, .int (-1)), (0, .ref v0), (1, .int v1)]) B rfl (by decide) rfl dX13_hour_20 ?_
  refine k_iconst (v := 0) B (by decide) dX13_hour_21 ?_
  refine k_istore_n (lst' := [(3, .int 0), (2, .int (-1)), (0, .ref v0), (1, .int v1)]) B rfl (by decide) rfl dX13_hour_22 ?_
  refine k_iconst (v := 0) B (by decide) dX13_hour_23 ?_
  refine k_istore (lst' := [(4, .int 0), (3, .int 0), (2, .int (-1)), (0, .ref v0), (1, .int v1)]) B (by decide) rfl dX13_hour_24 ?_
  refine k_sub [3, 4, 2, 1, 0] rfl ?_
  exact kk
theorem bX13_hour_26 (B : Bd p s m args meth c cX13_hour 6 (wsOf yX13_hour cX13_hour 6 (some .int)) RX13 w (some .int) "hour") {v0 : Nat} {v1 : Int32} {v2 : Int32} {v3 : Int32} {v4 : Int32} {Q : State → Prop}  (kt : 24 ≤ v4 → K p l e rX13_hour s m args below meth c 6 w 0 0 Q S 91 [(2, .int v2)] []) (kf : ¬ 24 ≤ v4 → K p l e rX13_hour s m args below meth c 6 w 0 0 Q S 33 [(0, .ref v0), (1, .int v1), (2, .int v2), (3, .int v3), (4, .int v4)] []) : K p l e rX13_hour s m args below meth c 6 w 0 0 Q S 26 [(0, .ref v0), (1, .int v1), (2, .int v2), (3, .int v3), (4, .int v4)] [] := by
  refine k_iload B 4 rfl dX13_hour_26 ?_
  refine k_bipush (v := 24) B (by decide) dX13_hour_28 ?_
  refine k_icmp_ge (tgt := 91) B dX13_hour_30 (by decide) (fun c => ?_) (fun c => ?_)
  · refine k_sub [2] rfl ?_
    exact kt c
  · exact kf c
theorem bX13_hour_33 (B : Bd p s m args meth c cX13_hour 6 (wsOf yX13_hour cX13_hour 6 (some .int)) RX13 w (some .int) "hour") {v0 : Nat} {v1 : Int32} {v2 : Int32} {v3 : Int32} {v4 : Int32} {Q : State → Prop}  (kk : K p l e rX13_hour s m args below meth c 6 w 0 0 Q S 36 [(0, .ref v0), (1, .int v1), (2, .int v2), (3, .int v3), (4, .int v4), (5, .int 0)] []) : K p l e rX13_hour s m args below meth c 6 w 0 0 Q S 33 [(0, .ref v0), (1, .int v1), (2, .int v2), (3, .int v3), (4, .int v4)] [] := by
  refine k_iconst (v := 0) B (by decide) dX13_hour_33 ?_
  refine k_istore (lst' := [(5, .int 0), (0, .ref v0), (1, .int v1), (2, .int v2), (3, .int v3), (4, .int v4)]) B (by decide) rfl dX13_hour_34 ?_
  refine k_sub [1, 2, 3, 4, 5, 0] rfl ?_
  exact kk
theorem bX13_hour_36 (B : Bd p s m args meth c cX13_hour 6 (wsOf yX13_hour cX13_hour 6 (some .int)) RX13 w (some .int) "hour") {v0 : Nat} {v1 : Int32} {v2 : Int32} {v3 : Int32} {v4 : Int32} {v5 : Int32} {Q : State → Prop}  (kt : 24 ≤ (v4 + v5) → K p l e rX13_hour s m args below meth c 6 w 0 0 Q S 70 [(0, .ref v0), (1, .int v1), (2, .int v2), (3, .int v3), (4, .int v4), (5, .int v5)] []) (kf : ¬ 24 ≤ (v4 + v5) → K p l e rX13_hour s m args below meth c 6 w 0 0 Q S 46 [(0, .ref v0), (1, .int v1), (2, .int v2), (3, .int v3), (4, .int v4), (5, .int v5)] []) : K p l e rX13_hour s m args below meth c 6 w 0 0 Q S 36 [(0, .ref v0), (1, .int v1), (2, .int v2), (3, .int v3), (4, .int v4), (5, .int v5)] [] := by
  refine k_iload B 4 rfl dX13_hour_36 ?_
  refine k_iload B 5 rfl dX13_hour_38 ?_
  refine k_iadd B dX13_hour_40 ?_
  refine k_bipush (v := 24) B (by decide) dX13_hour_41 ?_
  refine k_icmp_ge (tgt := 70) B dX13_hour_43 (by decide) (fun c => ?_) (fun c => ?_)
  · exact kt c
  · exact kf c
theorem bX13_hour_46 (B : Bd p s m args meth c cX13_hour 6 (wsOf yX13_hour cX13_hour 6 (some .int)) RX13 w (some .int) "hour") {v0 : Nat} {v1 : Int32} {v2 : Int32} {v3 : Int32} {v4 : Int32} {v5 : Int32} {x1 : Nat} {Q : State → Prop} (h1 : kd S v0 = 15) (h2 : gP S 903 v0 = some x1) (h3 : kd S x1 = 21) (h4 : vp_in v1 (ln S x1)) (kt : ¬ ((((rI S x1) v1.toNatClampNeg) >>> ((v4 + v5) &&& 31)) &&& 1) = 1 → K p l e rX13_hour s m args below meth c 6 w 0 0 Q S 70 [(0, .ref v0), (1, .int v1), (2, .int v2), (3, .int v3), (4, .int v4), (5, .int v5)] []) (kf : ((((rI S x1) v1.toNatClampNeg) >>> ((v4 + v5) &&& 31)) &&& 1) = 1 → K p l e rX13_hour s m args below meth c 6 w 0 0 Q S 64 [(0, .ref v0), (1, .int v1), (2, .int v2), (3, .int v3), (4, .int v4), (5, .int v5)] []) : K p l e rX13_hour s m args below meth c 6 w 0 0 Q S 46 [(0, .ref v0), (1, .int v1), (2, .int v2), (3, .int v3), (4, .int v4), (5, .int v5)] [] := by
  refine k_aload_n B 0 rfl rfl dX13_hour_46 ?_
  refine k_getP (f := 903) (r := gP S 903 v0) B 14 7 rfl (by decide) rfl (by decide) rfl rfl (fun w h => in_of (uw_14 w h)) (in_of qfRX13_26) dX13_hour_47 h1 rfl ?_
  rw [h2]; change K _ _ _ _ _ _ _ _ _ _ _ _ _ _ _ _ _ _ (.ref x1 :: _)
  refine k_iload_n B 1 rfl rfl dX13_hour_50 ?_
  refine k_iald (v := (rI S x1) v1.toNatClampNeg) B dX13_hour_51 h3 h4 rfl ?_
  refine k_iload B 4 rfl dX13_hour_52 ?_
  refine k_iload B 5 rfl dX13_hour_54 ?_
  refine k_iadd B dX13_hour_56 ?_
  refine k_ishr B dX13_hour_57 ?_
  refine k_iconst (v := 1) B (by decide) dX13_hour_58 ?_
  refine k_iand B dX13_hour_59 ?_
  refine k_iconst (v := 1) B (by decide) dX13_hour_60 ?_
  refine k_icmp_ne (tgt := 70) B dX13_hour_61 (by decide) (fun c => ?_) (fun c => ?_)
  · exact kt c
  · exact kf c
theorem bX13_hour_64 (B : Bd p s m args meth c cX13_hour 6 (wsOf yX13_hour cX13_hour 6 (some .int)) RX13 w (some .int) "hour") {v0 : Nat} {v1 : Int32} {v2 : Int32} {v3 : Int32} {v4 : Int32} {v5 : Int32} {Q : State → Prop}  (kk : K p l e rX13_hour s m args below meth c 6 w 0 0 Q S 36 [(0, .ref v0), (1, .int v1), (2, .int v2), (3, .int v3), (4, .int v4), (5, .int (v5 + 1))] []) : K p l e rX13_hour s m args below meth c 6 w 0 0 Q S 64 [(0, .ref v0), (1, .int v1), (2, .int v2), (3, .int v3), (4, .int v4), (5, .int v5)] [] := by
  refine k_iinc (v := v5 + 1) (lst' := [(5, .int (v5 + 1)), (0, .ref v0), (1, .int v1), (2, .int v2), (3, .int v3), (4, .int v4)]) B 5 rfl rfl (by decide) rfl dX13_hour_64 ?_
  refine k_goto (tgt := 36) B dX13_hour_67 (by decide) ?_
  refine k_sub [1, 2, 3, 4, 5, 0] rfl ?_
  exact kk
theorem bX13_hour_70 (B : Bd p s m args meth c cX13_hour 6 (wsOf yX13_hour cX13_hour 6 (some .int)) RX13 w (some .int) "hour") {v0 : Nat} {v1 : Int32} {v2 : Int32} {v3 : Int32} {v4 : Int32} {v5 : Int32} {Q : State → Prop}  (kt : v3 < v5 → K p l e rX13_hour s m args below meth c 6 w 0 0 Q S 79 [(0, .ref v0), (1, .int v1), (4, .int v4), (5, .int v5)] []) (kf : ¬ v3 < v5 → K p l e rX13_hour s m args below meth c 6 w 0 0 Q S 76 [(0, .ref v0), (1, .int v1), (2, .int v2), (3, .int v3), (4, .int v4)] []) : K p l e rX13_hour s m args below meth c 6 w 0 0 Q S 70 [(0, .ref v0), (1, .int v1), (2, .int v2), (3, .int v3), (4, .int v4), (5, .int v5)] [] := by
  refine k_iload B 5 rfl dX13_hour_70 ?_
  refine k_iload_n B 3 rfl rfl dX13_hour_72 ?_
  refine k_icmp_gt (tgt := 79) B dX13_hour_73 (by decide) (fun c => ?_) (fun c => ?_)
  · refine k_sub [0, 1, 4, 5] rfl ?_
    exact kt c
  · refine k_sub [0, 1, 2, 3, 4] rfl ?_
    exact kf c
theorem bX13_hour_76 (B : Bd p s m args meth c cX13_hour 6 (wsOf yX13_hour cX13_hour 6 (some .int)) RX13 w (some .int) "hour") {v0 : Nat} {v1 : Int32} {v2 : Int32} {v3 : Int32} {v4 : Int32} {Q : State → Prop}  (kk : K p l e rX13_hour s m args below meth c 6 w 0 0 Q S 85 [(0, .ref v0), (1, .int v1), (2, .int v2), (3, .int v3), (4, .int v4)] []) : K p l e rX13_hour s m args below meth c 6 w 0 0 Q S 76 [(0, .ref v0), (1, .int v1), (2, .int v2), (3, .int v3), (4, .int v4)] [] := by
  refine k_goto (tgt := 85) B dX13_hour_76 (by decide) ?_
  exact kk
theorem bX13_hour_79 (B : Bd p s m args meth c cX13_hour 6 (wsOf yX13_hour cX13_hour 6 (some .int)) RX13 w (some .int) "hour") {v0 : Nat} {v1 : Int32} {v4 : Int32} {v5 : Int32} {Q : State → Prop}  (kk : K p l e rX13_hour s m args below meth c 6 w 0 0 Q S 85 [(0, .ref v0), (1, .int v1), (2, .int v4), (3, .int v5), (4, .int v4)] []) : K p l e rX13_hour s m args below meth c 6 w 0 0 Q S 79 [(0, .ref v0), (1, .int v1), (4, .int v4), (5, .int v5)] [] := by
  refine k_iload B 3 rfl dX13_hour_79 ?_
  refine k_istore_n (lst' := [(3, .int v5), (0, .ref v0), (1, .int v1), (4, .int v4), (5, .int v5)]) B rfl (by decide) rfl dX13_hour_81 ?_
  refine k_iload B 3 rfl dX13_hour_82 ?_
  refine k_istore_n (lst' := [(2, .int v4), (3, .int v5), (0, .ref v0), (1, .int v1), (4, .int v4), (5, .int v5)]) B rfl (by decide) rfl dX13_hour_84 ?_
  refine k_sub [2, 3, 0, 1, 4] rfl ?_
  exact kk
theorem bX13_hour_85 (B : Bd p s m args meth c cX13_hour 6 (wsOf yX13_hour cX13_hour 6 (some .int)) RX13 w (some .int) "hour") {v0 : Nat} {v1 : Int32} {v2 : Int32} {v3 : Int32} {v4 : Int32} {Q : State → Prop}  (kk : K p l e rX13_hour s m args below meth c 6 w 0 0 Q S 26 [(0, .ref v0), (1, .int v1), (2, .int v2), (3, .int v3), (4, .int (v4 + 1))] []) : K p l e rX13_hour s m args below meth c 6 w 0 0 Q S 85 [(0, .ref v0), (1, .int v1), (2, .int v2), (3, .int v3), (4, .int v4)] [] := by
  refine k_iinc (v := v4 + 1) (lst' := [(4, .int (v4 + 1)), (0, .ref v0), (1, .int v1), (2, .int v2), (3, .int v3)]) B 4 rfl rfl (by decide) rfl dX13_hour_85 ?_
  refine k_goto (tgt := 26) B dX13_hour_88 (by decide) ?_
  refine k_sub [1, 2, 3, 4, 0] rfl ?_
  exact kk
theorem bX13_hour_91 (B : Bd p s m args meth c cX13_hour 6 (wsOf yX13_hour cX13_hour 6 (some .int)) RX13 w (some .int) "hour") {v2 : Int32} {post : Int32 → St → Prop}  (hq : post v2 S) : K p l e rX13_hour s m args below meth c 6 w 0 0 (MQ below (va_Qi post (fun S' t => Hd w S' t.heap) (wA w)) args s 0 0 (wA w)) S 91 [(2, .int v2)] [] := by
  refine k_iload_n B 0 rfl rfl dX13_hour_91 ?_
  exact ret_I B rfl dX13_hour_92 (hq)
theorem bX13_digest_0 (B : Bd p s m args meth c cX13_digest 5 (wsOf yX13_digest cX13_digest 5 (some .long)) RX13 w (some .long) "digest") {v0 : Nat} {k n : Nat} {Q : State → Prop} (h1 : kd S v0 = 15) (kk : K p l e rX13_digest s m args below meth c 5 w k n Q (sI S 896 v0 0) 11 [(0, .ref v0), (1, .long 859), (3, .int 0)] []) : K p l e rX13_digest s m args below meth c 5 w k n Q S 0 [(0, .ref v0)] [] := by
  refine k_aload_n B 0 rfl rfl dX13_digest_0 ?_
  refine k_iconst (v := 0) B (by decide) dX13_digest_1 ?_
  refine k_putI (f := 896) B 14 0 rfl (by decide) rfl (by decide) rfl rfl (fun w h => in_of (uw_14 w h)) (in_of qfRX13_95) tyX13 tyX13_ok nmX13 rfl (tyX13_ok 0 (by decide)) dX13_digest_2 h1 ?_
  refine k_ldc2 (v := 859) B (in_of qtRX13_271) dX13_digest_5 ?_
  refine k_lstore_n (lst' := [(1, .long 859), (0, .ref v0)]) B rfl (by decide) rfl dX13_digest_8 ?_
  refine k_iconst (v := 0) B (by decide) dX13_digest_9 ?_
  refine k_istore_n (lst' := [(3, .int 0), (1, .long 859), (0, .ref v0)]) B rfl (by decide) rfl dX13_digest_10 ?_
  refine k_sub [2, 1, 0] rfl ?_
  exact kk
theorem bX13_digest_11 (B : Bd p s m args meth c cX13_digest 5 (wsOf yX13_digest cX13_digest 5 (some .long)) RX13 w (some .long) "digest") {v0 : Nat} {v1 : Int64} {v3 : Int32} {k n : Nat} {Q : State → Prop}  (kt : 11 < v3 → K p l e rX13_digest s m args below meth c 5 w k n Q S 36 [(0, .ref v0), (1, .long v1)] []) (kf : ¬ 11 < v3 → K p l e rX13_digest s m args below meth c 5 w k n Q S 17 [(0, .ref v0), (1, .long v1), (3, .int v3)] []) : K p l e rX13_digest s m args below meth c 5 w k n Q S 11 [(0, .ref v0), (1, .long v1), (3, .int v3)] [] := by
  refine k_iload_n B 2 rfl rfl dX13_digest_11 ?_
  refine k_bipush (v := 11) B (by decide) dX13_digest_12 ?_
  refine k_icmp_gt (tgt := 36) B dX13_digest_14 (by decide) (fun c => ?_) (fun c => ?_)
  · refine k_sub [0, 1] rfl ?_
    exact kt c
  · exact kf c
theorem bX13_digest_17 (B : Bd p s m args meth c cX13_digest 5 (wsOf yX13_digest cX13_digest 5 (some .long)) RX13 w (some .long) "digest") {v0 : Nat} {v1 : Int64} {v3 : Int32} {post : Int32 → St → Prop} {k n : Nat} {Q : State → Prop} (hc : ConI l yX13_counted (wsOf yX13_counted cX13_counted 5 (some .int)) rX13_counted w S [.ref v0, .int v3] post) (h1 : k + 1 ≤ rX13_digest.cells) (h2 : n + 12 ≤ rX13_digest.slots) (h3 : kd S v0 = 15) (kk : ∀ (r : Int32) (S' : St), post r S' → K p l e rX13_digest s m args below meth c 5 w (k + 1) (n + 12) Q S' 27 [(0, .ref v0), (3, .int v3)] [.int r, .long (v1 * 31)]) : K p l e rX13_digest s m args below meth c 5 w k n Q S 17 [(0, .ref v0), (1, .long v1), (3, .int v3)] [] := by
  refine k_lload_n B 1 rfl rfl dX13_digest_17 ?_
  refine k_ldc2 (v := 31) B (in_of qtRX13_273) dX13_digest_18 ?_
  refine k_lmul B dX13_digest_21 ?_
  refine k_aload_n B 0 rfl rfl dX13_digest_22 ?_
  refine k_iload_n B 2 rfl rfl dX13_digest_23 ?_
  refine callV_I (st := [.long (v1 * 31)]) B [.int v3] (hc) (cwV 1 B.1.2.2.2.2 (gV qlRX13_257 qiX13_counted qeX13_counted qzRX13 qcX13_counted) rfl rfl rfl (by decide +kernel) ⟨Nat.le_of_ble_eq_true rfl, Nat.le_of_ble_eq_true rfl⟩) rfl rfl (by decide) h3 (Nat.le_of_ble_eq_true rfl) rfl dX13_digest_24 ⟨h1, h2⟩ (fun r S' hp => ?_)
  refine k_sub [0, 2] rfl ?_
  exact kk r S' hp
theorem bX13_digest_27 (B : Bd p s m args meth c cX13_digest 5 (wsOf yX13_digest cX13_digest 5 (some .long)) RX13 w (some .long) "digest") {v0 : Nat} {v3 : Int32} {t0 : Int64} {t1 : Int32} {k n : Nat} {Q : State → Prop}  (kk : K p l e rX13_digest s m args below meth c 5 w k n Q S 11 [(0, .ref v0), (1, .long (t0 + (t1.toInt64))), (3, .int (v3 + 1))] []) : K p l e rX13_digest s m args below meth c 5 w k n Q S 27 [(0, .ref v0), (3, .int v3)] [.int t1, .long t0] := by
  refine k_i2l B dX13_digest_27 ?_
  refine k_ladd B dX13_digest_28 ?_
  refine k_lstore_n (lst' := [(1, .long (t0 + (t1.toInt64))), (0, .ref v0), (3, .int v3)]) B rfl (by decide) rfl dX13_digest_29 ?_
  refine k_iinc (v := v3 + 1) (lst' := [(3, .int (v3 + 1)), (1, .long (t0 + (t1.toInt64))), (0, .ref v0)]) B 2 rfl rfl (by decide) rfl dX13_digest_30 ?_
  refine k_goto (tgt := 11) B dX13_digest_33 (by decide) ?_
  refine k_sub [2, 1, 0] rfl ?_
  exact kk
theorem bX13_digest_36 (B : Bd p s m args meth c cX13_digest 5 (wsOf yX13_digest cX13_digest 5 (some .long)) RX13 w (some .long) "digest") {v0 : Nat} {v1 : Int64} {k n : Nat} {Q : State → Prop}  (kk : K p l e rX13_digest s m args below meth c 5 w k n Q S 38 [(0, .ref v0), (1, .long v1), (3, .int 0)] []) : K p l e rX13_digest s m args below meth c 5 w k n Q S 36 [(0, .ref v0), (1, .long v1)] [] := by
  refine k_iconst (v := 0) B (by decide) dX13_digest_36 ?_
  refine k_istore_n (lst' := [(3, .int 0), (0, .ref v0), (1, .long v1)]) B rfl (by decide) rfl dX13_digest_37 ?_
  refine k_sub [1, 2, 0] rfl ?_
  exact kk
theorem bX13_digest_38 (B : Bd p s m args meth c cX13_digest 5 (wsOf yX13_digest cX13_digest 5 (some .long)) RX13 w (some .long) "digest") {v0 : Nat} {v1 : Int64} {v3 : Int32} {k n : Nat} {Q : State → Prop}  (kt : 24 ≤ v3 → K p l e rX13_digest s m args below meth c 5 w k n Q S 64 [(0, .ref v0), (1, .long v1)] []) (kf : ¬ 24 ≤ v3 → K p l e rX13_digest s m args below meth c 5 w k n Q S 44 [(0, .ref v0), (1, .long v1), (3, .int v3)] []) : K p l e rX13_digest s m args below meth c 5 w k n Q S 38 [(0, .ref v0), (1, .long v1), (3, .int v3)] [] := by
  refine k_iload_n B 2 rfl rfl dX13_digest_38 ?_
  refine k_bipush (v := 24) B (by decide) dX13_digest_39 ?_
  refine k_icmp_ge (tgt := 64) B dX13_digest_41 (by decide) (fun c => ?_) (fun c => ?_)
  · refine k_sub [0, 1] rfl ?_
    exact kt c
  · exact kf c
theorem bX13_digest_44 (B : Bd p s m args meth c cX13_digest 5 (wsOf yX13_digest cX13_digest 5 (some .long)) RX13 w (some .long) "digest") {v0 : Nat} {v1 : Int64} {v3 : Int32} {x1 : Nat} {k n : Nat} {Q : State → Prop} (h1 : kd S v0 = 15) (h2 : gP S 897 v0 = some x1) (h3 : kd S x1 = 21) (h4 : vp_in v3 (ln S x1)) (kk : K p l e rX13_digest s m args below meth c 5 w k n Q S 38 [(0, .ref v0), (1, .long ((v1 * 31) + (((rI S x1) v3.toNatClampNeg).toInt64))), (3, .int (v3 + 1))] []) : K p l e rX13_digest s m args below meth c 5 w k n Q S 44 [(0, .ref v0), (1, .long v1), (3, .int v3)] [] := by
  refine k_lload_n B 1 rfl rfl dX13_digest_44 ?_
  refine k_ldc2 (v := 31) B (in_of qtRX13_273) dX13_digest_45 ?_
  refine k_lmul B dX13_digest_48 ?_
  refine k_aload_n B 0 rfl rfl dX13_digest_49 ?_
  refine k_getP (f := 897) (r := gP S 897 v0) B 14 1 rfl (by decide) rfl (by decide) rfl rfl (fun w h => in_of (uw_14 w h)) (in_of qfRX13_7) dX13_digest_50 h1 rfl ?_
  rw [h2]; change K _ _ _ _ _ _ _ _ _ _ _ _ _ _ _ _ _ _ (.ref x1 :: _)
  refine k_iload_n B 2 rfl rfl dX13_digest_53 ?_
  refine k_iald (v := (rI S x1) v3.toNatClampNeg) B dX13_digest_54 h3 h4 rfl ?_
  refine k_i2l B dX13_digest_55 ?_
  refine k_ladd B dX13_digest_56 ?_
  refine k_lstore_n (lst' := [(1, .long ((v1 * 31) + (((rI S x1) v3.toNatClampNeg).toInt64))), (0, .ref v0), (3, .int v3)]) B rfl (by decide) rfl dX13_digest_57 ?_
  refine k_iinc (v := v3 + 1) (lst' := [(3, .int (v3 + 1)), (1, .long ((v1 * 31) + (((rI S x1) v3.toNatClampNeg).toInt64))), (0, .ref v0)]) B 2 rfl rfl (by decide) rfl dX13_digest_58 ?_
  refine k_goto (tgt := 38) B dX13_digest_61 (by decide) ?_
  refine k_sub [2, 1, 0] rfl ?_
  exact kk
theorem bX13_digest_64 (B : Bd p s m args meth c cX13_digest 5 (wsOf yX13_digest cX13_digest 5 (some .long)) RX13 w (some .long) "digest") {v0 : Nat} {v1 : Int64} {k n : Nat} {Q : State → Prop} (h1 : kd S v0 = 15) (kk : K p l e rX13_digest s m args below meth c 5 w k n Q S 88 [(0, .ref v0), (1, .long ((((v1 * 31) + ((gI S 898 v0).toInt64)) * 31) + ((gI S 899 v0).toInt64))), (3, .int 0)] []) : K p l e rX13_digest s m args below meth c 5 w k n Q S 64 [(0, .ref v0), (1, .long v1)] [] := by
  refine k_lload_n B 1 rfl rfl dX13_digest_64 ?_
  refine k_ldc2 (v := 31) B (in_of qtRX13_273) dX13_digest_65 ?_
  refine k_lmul B dX13_digest_68 ?_
  refine k_aload_n B 0 rfl rfl dX13_digest_69 ?_
  refine k_getI (f := 898) (v := gI S 898 v0) B 14 2 rfl (by decide) rfl (by decide) rfl rfl (fun w h => in_of (uw_14 w h)) (in_of qfRX13_13) dX13_digest_70 h1 rfl ?_
  refine k_i2l B dX13_digest_73 ?_
  refine k_ladd B dX13_digest_74 ?_
  refine k_ldc2 (v := 31) B (in_of qtRX13_273) dX13_digest_75 ?_
  refine k_lmul B dX13_digest_78 ?_
  refine k_aload_n B 0 rfl rfl dX13_digest_79 ?_
  refine k_getI (f := 899) (v := gI S 899 v0) B 14 3 rfl (by decide) rfl (by decide) rfl rfl (fun w h => in_of (uw_14 w h)) (in_of qfRX13_17) dX13_digest_80 h1 rfl ?_
  refine k_i2l B dX13_digest_83 ?_
  refine k_ladd B dX13_digest_84 ?_
  refine k_lstore_n (lst' := [(1, .long ((((v1 * 31) + ((gI S 898 v0).toInt64)) * 31) + ((gI S 899 v0).toInt64))), (0, .ref v0)]) B rfl (by decide) rfl dX13_digest_85 ?_
  refine k_iconst (v := 0) B (by decide) dX13_digest_86 ?_
  refine k_istore_n (lst' := [(3, .int 0), (1, .long ((((v1 * 31) + ((gI S 898 v0).toInt64)) * 31) + ((gI S 899 v0).toInt64))), (0, .ref v0)]) B rfl (by decide) rfl dX13_digest_87 ?_
  refine k_sub [2, 1, 0] rfl ?_
  exact kk
theorem bX13_digest_88 (B : Bd p s m args meth c cX13_digest 5 (wsOf yX13_digest cX13_digest 5 (some .long)) RX13 w (some .long) "digest") {v0 : Nat} {v1 : Int64} {v3 : Int32} {k n : Nat} {Q : State → Prop} (h1 : kd S v0 = 15) (kt : (gI S 900 v0) ≤ v3 → K p l e rX13_digest s m args below meth c 5 w k n Q S 171 [(0, .ref v0), (1, .long v1)] []) (kf : ¬ (gI S 900 v0) ≤ v3 → K p l e rX13_digest s m args below meth c 5 w k n Q S 96 [(0, .ref v0), (1, .long v1), (3, .int v3)] []) : K p l e rX13_digest s m args below meth c 5 w k n Q S 88 [(0, .ref v0), (1, .long v1), (3, .int v3)] [] := by
  refine k_iload_n B 2 rfl rfl dX13_digest_88 ?_
  refine k_aload_n B 0 rfl rfl dX13_digest_89 ?_
  refine k_getI (f := 900) (v := gI S 900 v0) B 14 4 rfl (by decide) rfl (by decide) rfl rfl (fun w h => in_of (uw_14 w h)) (in_of qfRX13_108) dX13_digest_90 h1 rfl ?_
  refine k_icmp_ge (tgt := 171) B dX13_digest_93 (by decide) (fun c => ?_) (fun c => ?_)
  · refine k_sub [0, 1] rfl ?_
    exact kt c
  · exact kf c
theorem bX13_digest_96 (B : Bd p s m args meth c cX13_digest 5 (wsOf yX13_digest cX13_digest 5 (some .long)) RX13 w (some .long) "digest") {v0 : Nat} {v1 : Int64} {v3 : Int32} {k n : Nat} {Q : State → Prop}  (kk : K p l e rX13_digest s m args below meth c 5 w k n Q S 99 [(0, .ref v0), (1, .long v1), (3, .int v3), (4, .int 0)] []) : K p l e rX13_digest s m args below meth c 5 w k n Q S 96 [(0, .ref v0), (1, .long v1), (3, .int v3)] [] := by
  refine k_iconst (v := 0) B (by decide) dX13_digest_96 ?_
  refine k_istore (lst' := [(4, .int 0), (0, .ref v0), (1, .long v1), (3, .int v3)]) B (by decide) rfl dX13_digest_97 ?_
  refine k_sub [1, 2, 3, 0] rfl ?_
  exact kk
theorem bX13_digest_99 (B : Bd p s m args meth c cX13_digest 5 (wsOf yX13_digest cX13_digest 5 (some .long)) RX13 w (some .long) "digest") {v0 : Nat} {v1 : Int64} {v3 : Int32} {v4 : Int32} {k n : Nat} {Q : State → Prop}  (kt : 5 < v4 → K p l e rX13_digest s m args below meth c 5 w k n Q S 126 [(0, .ref v0), (1, .long v1), (3, .int v3)] []) (kf : ¬ 5 < v4 → K p l e rX13_digest s m args below meth c 5 w k n Q S 105 [(0, .ref v0), (1, .long v1), (3, .int v3), (4, .int v4)] []) : K p l e rX13_digest s m args below meth c 5 w k n Q S 99 [(0, .ref v0), (1, .long v1), (3, .int v3), (4, .int v4)] [] := by
  refine k_iload B 3 rfl dX13_digest_99 ?_
  refine k_iconst (v := 5) B (by decide) dX13_digest_101 ?_
  refine k_icmp_gt (tgt := 126) B dX13_digest_102 (by decide) (fun c => ?_) (fun c => ?_)
  · refine k_sub [0, 1, 2] rfl ?_
    exact kt c
  · exact kf c
theorem bX13_digest_105 (B : Bd p s m args meth c cX13_digest 5 (wsOf yX13_digest cX13_digest 5 (some .long)) RX13 w (some .long) "digest") {v0 : Nat} {v1 : Int64} {v3 : Int32} {v4 : Int32} {post : Int32 → St → Prop} {k n : Nat} {Q : State → Prop} (hc : ConI l yX13_homeTold (wsOf yX13_homeTold cX13_homeTold 6 (some .int)) rX13_homeTold w S [.ref v0, .int v3, .int v4] post) (h1 : k + 1 ≤ rX13_digest.cells) (h2 : n + 6 ≤ rX13_digest.slots) (h3 : kd S v0 = 15) (kk : ∀ (r : Int32) (S' : St), post r S' → K p l e rX13_digest s m args below meth c 5 w (k + 1) (n + 6) Q S' 117 [(0, .ref v0), (3, .int v3), (4, .int v4)] [.int r, .long (v1 * 31)]) : K p l e rX13_digest s m args below meth c 5 w k n Q S 105 [(0, .ref v0), (1, .long v1), (3, .int v3), (4, .int v4)] [] := by
  refine k_lload_n B 1 rfl rfl dX13_digest_105 ?_
  refine k_ldc2 (v := 31) B (in_of qtRX13_273) dX13_digest_106 ?_
  refine k_lmul B dX13_digest_109 ?_
  refine k_aload_n B 0 rfl rfl dX13_digest_110 ?_
  refine k_iload_n B 2 rfl rfl dX13_digest_111 ?_
  refine k_iload B 3 rfl dX13_digest_112 ?_
  refine callV_I (st := [.long (v1 * 31)]) B [.int v3, .int v4] (hc) (cwV 2 B.1.2.2.2.2 (gV qlRX13_150 qiX13_homeTold qeX13_homeTold qzRX13 qcX13_homeTold) rfl rfl rfl (by decide +kernel) ⟨Nat.le_of_ble_eq_true rfl, Nat.le_of_ble_eq_true rfl⟩) rfl rfl (by decide) h3 (Nat.le_of_ble_eq_true rfl) rfl dX13_digest_114 ⟨h1, h2⟩ (fun r S' hp => ?_)
  refine k_sub [0, 2, 3] rfl ?_
  exact kk r S' hp
theorem bX13_digest_117 (B : Bd p s m args meth c cX13_digest 5 (wsOf yX13_digest cX13_digest 5 (some .long)) RX13 w (some .long) "digest") {v0 : Nat} {v3 : Int32} {v4 : Int32} {t0 : Int64} {t1 : Int32} {k n : Nat} {Q : State → Prop}  (kk : K p l e rX13_digest s m args below meth c 5 w k n Q S 99 [(0, .ref v0), (1, .long (t0 + (t1.toInt64))), (3, .int v3), (4, .int (v4 + 1))] []) : K p l e rX13_digest s m args below meth c 5 w k n Q S 117 [(0, .ref v0), (3, .int v3), (4, .int v4)] [.int t1, .long t0] := by
  refine k_i2l B dX13_digest_117 ?_
  refine k_ladd B dX13_digest_118 ?_
  refine k_lstore_n (lst' := [(1, .long (t0 + (t1.toInt64))), (0, .ref v0), (3, .int v3), (4, .int v4)]) B rfl (by decide) rfl dX13_digest_119 ?_
  refine k_iinc (v := v4 + 1) (lst' := [(4, .int (v4 + 1)), (1, .long (t0 + (t1.toInt64))), (0, .ref v0), (3, .int v3)]) B 3 rfl rfl (by decide) rfl dX13_digest_120 ?_
  refine k_goto (tgt := 99) B dX13_digest_123 (by decide) ?_
  refine k_sub [2, 1, 3, 0] rfl ?_
  exact kk
theorem bX13_digest_126 (B : Bd p s m args meth c cX13_digest 5 (wsOf yX13_digest cX13_digest 5 (some .long)) RX13 w (some .long) "digest") {v0 : Nat} {v1 : Int64} {v3 : Int32} {k n : Nat} {Q : State → Prop}  (kk : K p l e rX13_digest s m args below meth c 5 w k n Q S 129 [(0, .ref v0), (1, .long v1), (3, .int v3), (4, .int 0)] []) : K p l e rX13_digest s m args below meth c 5 w k n Q S 126 [(0, .ref v0), (1, .long v1), (3, .int v3)] [] := by
  refine k_iconst (v := 0) B (by decide) dX13_digest_126 ?_
  refine k_istore (lst' := [(4, .int 0), (0, .ref v0), (1, .long v1), (3, .int v3)]) B (by decide) rfl dX13_digest_127 ?_
  refine k_sub [1, 2, 3, 0] rfl ?_
  exact kk
theorem bX13_digest_129 (B : Bd p s m args meth c cX13_digest 5 (wsOf yX13_digest cX13_digest 5 (some .long)) RX13 w (some .long) "digest") {v0 : Nat} {v1 : Int64} {v3 : Int32} {v4 : Int32} {x1 : Nat} {k n : Nat} {Q : State → Prop} (h1 : kd S v0 = 15) (h2 : gP S 904 v0 = some x1) (h3 : kd S x1 = 21) (h4 : vp_in v3 (ln S x1)) (kt : ((rI S x1) v3.toNatClampNeg) ≤ v4 → K p l e rX13_digest s m args below meth c 5 w k n Q S 165 [(0, .ref v0), (1, .long v1), (3, .int v3)] []) (kf : ¬ ((rI S x1) v3.toNatClampNeg) ≤ v4 → K p l e rX13_digest s m args below meth c 5 w k n Q S 140 [(0, .ref v0), (1, .long v1), (3, .int v3), (4, .int v4)] []) : K p l e rX13_digest s m args below meth c 5 w k n Q S 129 [(0, .ref v0), (1, .long v1), (3, .int v3), (4, .int v4)] [] := by
  refine k_iload B 3 rfl dX13_digest_129 ?_
  refine k_aload_n B 0 rfl rfl dX13_digest_131 ?_
  refine k_getP (f := 904) (r := gP S 904 v0) B 14 8 rfl (by decide) rfl (by decide) rfl rfl (fun w h => in_of (uw_14 w h)) (in_of qfRX13_29) dX13_digest_132 h1 rfl ?_
  rw [h2]; change K _ _ _ _ _ _ _ _ _ _ _ _ _ _ _ _ _ _ (.ref x1 :: _)
  refine k_iload_n B 2 rfl rfl dX13_digest_135 ?_
  refine k_iald (v := (rI S x1) v3.toNatClampNeg) B dX13_digest_136 h3 h4 rfl ?_
  refine k_icmp_ge (tgt := 165) B dX13_digest_137 (by decide) (fun c => ?_) (fun c => ?_)
  · refine k_sub [0, 1, 2] rfl ?_
    exact kt c
  · exact kf c
theorem bX13_digest_140 (B : Bd p s m args meth c cX13_digest 5 (wsOf yX13_digest cX13_digest 5 (some .long)) RX13 w (some .long) "digest") {v0 : Nat} {v1 : Int64} {v3 : Int32} {v4 : Int32} {x1 : Nat} {k n : Nat} {Q : State → Prop} (h1 : kd S v0 = 15) (h2 : gP S 905 v0 = some x1) (h3 : kd S x1 = 21) (h4 : vp_in ((3 * v3) + v4) (ln S x1)) (kk : K p l e rX13_digest s m args below meth c 5 w k n Q S 129 [(0, .ref v0), (1, .long ((v1 * 31) + (((rI S x1) ((3 * v3) + v4).toNatClampNeg).toInt64))), (3, .int v3), (4, .int (v4 + 1))] []) : K p l e rX13_digest s m args below meth c 5 w k n Q S 140 [(0, .ref v0), (1, .long v1), (3, .int v3), (4, .int v4)] [] := by
  refine k_lload_n B 1 rfl rfl dX13_digest_140 ?_
  refine k_ldc2 (v := 31) B (in_of qtRX13_273) dX13_digest_141 ?_
  refine k_lmul B dX13_digest_144 ?_
  refine k_aload_n B 0 rfl rfl dX13_digest_145 ?_
  refine k_getP (f := 905) (r := gP S 905 v0) B 14 9 rfl (by decide) rfl (by decide) rfl rfl (fun w h => in_of (uw_14 w h)) (in_of qfRX13_32) dX13_digest_146 h1 rfl ?_
  rw [h2]; change K _ _ _ _ _ _ _ _ _ _ _ _ _ _ _ _ _ _ (.ref x1 :: _)
  refine k_iconst (v := 3) B (by decide) dX13_digest_149 ?_
  refine k_iload_n B 2 rfl rfl dX13_digest_150 ?_
  refine k_imul B dX13_digest_151 ?_
  refine k_iload B 3 rfl dX13_digest_152 ?_
  refine k_iadd B dX13_digest_154 ?_
  refine k_iald (v := (rI S x1) ((3 * v3) + v4).toNatClampNeg) B dX13_digest_155 h3 h4 rfl ?_
  refine k_i2l B dX13_digest_156 ?_
  refine k_ladd B dX13_digest_157 ?_
  refine k_lstore_n (lst' := [(1, .long ((v1 * 31) + (((rI S x1) ((3 * v3) + v4).toNatClampNeg).toInt64))), (0, .ref v0), (3, .int v3), (4, .int v4)]) B rfl (by decide) rfl dX13_digest_158 ?_
  refine k_iinc (v := v4 + 1) (lst' := [(4, .int (v4 + 1)), (1, .long ((v1 * 31) + (((rI S x1) ((3 * v3) + v4).toNatClampNeg).toInt64))), (0, .ref v0), (3, .int v3)]) B 3 rfl rfl (by decide) rfl dX13_digest_159 ?_
  refine k_goto (tgt := 129) B dX13_digest_162 (by decide) ?_
  refine k_sub [2, 1, 3, 0] rfl ?_
  exact kk
theorem bX13_digest_165 (B : Bd p s m args meth c cX13_digest 5 (wsOf yX13_digest cX13_digest 5 (some .long)) RX13 w (some .long) "digest") {v0 : Nat} {v1 : Int64} {v3 : Int32} {k n : Nat} {Q : State → Prop}  (kk : K p l e rX13_digest s m args below meth c 5 w k n Q S 88 [(0, .ref v0), (1, .long v1), (3, .int (v3 + 1))] []) : K p l e rX13_digest s m args below meth c 5 w k n Q S 165 [(0, .ref v0), (1, .long v1), (3, .int v3)] [] := by
  refine k_iinc (v := v3 + 1) (lst' := [(3, .int (v3 + 1)), (0, .ref v0), (1, .long v1)]) B 2 rfl rfl (by decide) rfl dX13_digest_165 ?_
  refine k_goto (tgt := 88) B dX13_digest_168 (by decide) ?_
  refine k_sub [1, 2, 0] rfl ?_
  exact kk
theorem bX13_digest_171 (B : Bd p s m args meth c cX13_digest 5 (wsOf yX13_digest cX13_digest 5 (some .long)) RX13 w (some .long) "digest") {v0 : Nat} {v1 : Int64} {k n : Nat} {Q : State → Prop}  (kk : K p l e rX13_digest s m args below meth c 5 w k n Q S 173 [(0, .ref v0), (1, .long v1), (3, .int 0)] []) : K p l e rX13_digest s m args below meth c 5 w k n Q S 171 [(0, .ref v0), (1, .long v1)] [] := by
  refine k_iconst (v := 0) B (by decide) dX13_digest_171 ?_
  refine k_istore_n (lst' := [(3, .int 0), (0, .ref v0), (1, .long v1)]) B rfl (by decide) rfl dX13_digest_172 ?_
  refine k_sub [1, 2, 0] rfl ?_
  exact kk
theorem bX13_digest_173 (B : Bd p s m args meth c cX13_digest 5 (wsOf yX13_digest cX13_digest 5 (some .long)) RX13 w (some .long) "digest") {v0 : Nat} {v1 : Int64} {v3 : Int32} {k n : Nat} {Q : State → Prop} (h1 : kd S v0 = 15) (kt : (gI S 906 v0) ≤ v3 → K p l e rX13_digest s m args below meth c 5 w k n Q S 217 [(0, .ref v0), (1, .long v1)] []) (kf : ¬ (gI S 906 v0) ≤ v3 → K p l e rX13_digest s m args below meth c 5 w k n Q S 181 [(0, .ref v0), (1, .long v1), (3, .int v3)] []) : K p l e rX13_digest s m args below meth c 5 w k n Q S 173 [(0, .ref v0), (1, .long v1), (3, .int v3)] [] := by
  refine k_iload_n B 2 rfl rfl dX13_digest_173 ?_
  refine k_aload_n B 0 rfl rfl dX13_digest_174 ?_
  refine k_getI (f := 906) (v := gI S 906 v0) B 14 10 rfl (by decide) rfl (by decide) rfl rfl (fun w h => in_of (uw_14 w h)) (in_of qfRX13_111) dX13_digest_175 h1 rfl ?_
  refine k_icmp_ge (tgt := 217) B dX13_digest_178 (by decide) (fun c => ?_) (fun c => ?_)
  · refine k_sub [0, 1] rfl ?_
    exact kt c
  · exact kf c
theorem bX13_digest_181 (B : Bd p s m args meth c cX13_digest 5 (wsOf yX13_digest cX13_digest 5 (some .long)) RX13 w (some .long) "digest") {v0 : Nat} {v1 : Int64} {v3 : Int32} {k n : Nat} {Q : State → Prop}  (kk : K p l e rX13_digest s m args below meth c 5 w k n Q S 184 [(0, .ref v0), (1, .long v1), (3, .int v3), (4, .int 0)] []) : K p l e rX13_digest s m args below meth c 5 w k n Q S 181 [(0, .ref v0), (1, .long v1), (3, .int v3)] [] := by
  refine k_iconst (v := 0) B (by decide) dX13_digest_181 ?_
  refine k_istore (lst' := [(4, .int 0), (0, .ref v0), (1, .long v1), (3, .int v3)]) B (by decide) rfl dX13_digest_182 ?_
  refine k_sub [1, 2, 3, 0] rfl ?_
  exact kk
theorem bX13_digest_184 (B : Bd p s m args meth c cX13_digest 5 (wsOf yX13_digest cX13_digest 5 (some .long)) RX13 w (some .long) "digest") {v0 : Nat} {v1 : Int64} {v3 : Int32} {v4 : Int32} {k n : Nat} {Q : State → Prop}  (kt : 5 < v4 → K p l e rX13_digest s m args below meth c 5 w k n Q S 211 [(0, .ref v0), (1, .long v1), (3, .int v3)] []) (kf : ¬ 5 < v4 → K p l e rX13_digest s m args below meth c 5 w k n Q S 190 [(0, .ref v0), (1, .long v1), (3, .int v3), (4, .int v4)] []) : K p l e rX13_digest s m args below meth c 5 w k n Q S 184 [(0, .ref v0), (1, .long v1), (3, .int v3), (4, .int v4)] [] := by
  refine k_iload B 3 rfl dX13_digest_184 ?_
  refine k_iconst (v := 5) B (by decide) dX13_digest_186 ?_
  refine k_icmp_gt (tgt := 211) B dX13_digest_187 (by decide) (fun c => ?_) (fun c => ?_)
  · refine k_sub [0, 1, 2] rfl ?_
    exact kt c
  · exact kf c
theorem bX13_digest_190 (B : Bd p s m args meth c cX13_digest 5 (wsOf yX13_digest cX13_digest 5 (some .long)) RX13 w (some .long) "digest") {v0 : Nat} {v1 : Int64} {v3 : Int32} {v4 : Int32} {post : Int32 → St → Prop} {k n : Nat} {Q : State → Prop} (hc : ConI l yX13_lockerTold (wsOf yX13_lockerTold cX13_lockerTold 5 (some .int)) rX13_lockerTold w S [.ref v0, .int v3, .int v4] post) (h1 : k + 0 ≤ rX13_digest.cells) (h2 : n + 0 ≤ rX13_digest.slots) (h3 : kd S v0 = 15) (kk : ∀ (r : Int32) (S' : St), post r S' → K p l e rX13_digest s m args below meth c 5 w k n Q S' 202 [(0, .ref v0), (3, .int v3), (4, .int v4)] [.int r, .long (v1 * 31)]) : K p l e rX13_digest s m args below meth c 5 w k n Q S 190 [(0, .ref v0), (1, .long v1), (3, .int v3), (4, .int v4)] [] := by
  refine k_lload_n B 1 rfl rfl dX13_digest_190 ?_
  refine k_ldc2 (v := 31) B (in_of qtRX13_273) dX13_digest_191 ?_
  refine k_lmul B dX13_digest_194 ?_
  refine k_aload_n B 0 rfl rfl dX13_digest_195 ?_
  refine k_iload_n B 2 rfl rfl dX13_digest_196 ?_
  refine k_iload B 3 rfl dX13_digest_197 ?_
  refine callV_I (st := [.long (v1 * 31)]) B [.int v3, .int v4] (hc) (cwV 2 B.1.2.2.2.2 (gV qlRX13_154 qiX13_lockerTold qeX13_lockerTold qzRX13 qcX13_lockerTold) rfl rfl rfl (by decide +kernel) ⟨Nat.le_of_ble_eq_true rfl, Nat.le_of_ble_eq_true rfl⟩) rfl rfl (by decide) h3 (Nat.le_of_ble_eq_true rfl) rfl dX13_digest_199 ⟨h1, h2⟩ (fun r S' hp => ?_)
  refine k_sub [0, 2, 3] rfl ?_
  exact kk r S' hp
theorem bX13_digest_202 (B : Bd p s m args meth c cX13_digest 5 (wsOf yX13_digest cX13_digest 5 (some .long)) RX13 w (some .long) "digest") {v0 : Nat} {v3 : Int32} {v4 : Int32} {t0 : Int64} {t1 : Int32} {k n : Nat} {Q : State → Prop}  (kk : K p l e rX13_digest s m args below meth c 5 w k n Q S 184 [(0, .ref v0), (1, .long (t0 + (t1.toInt64))), (3, .int v3), (4, .int (v4 + 1))] []) : K p l e rX13_digest s m args below meth c 5 w k n Q S 202 [(0, .ref v0), (3, .int v3), (4, .int v4)] [.int t1, .long t0] := by
  refine k_i2l B dX13_digest_202 ?_
  refine k_ladd B dX13_digest_203 ?_
  refine k_lstore_n (lst' := [(1, .long (t0 + (t1.toInt64))), (0, .ref v0), (3, .int v3), (4, .int v4)]) B rfl (by decide) rfl dX13_digest_204 ?_
  refine k_iinc (v := v4 + 1) (lst' := [(4, .int (v4 + 1)), (1, .long (t0 + (t1.toInt64))), (0, .ref v0), (3, .int v3)]) B 3 rfl rfl (by decide) rfl dX13_digest_205 ?_
  refine k_goto (tgt := 184) B dX13_digest_208 (by decide) ?_
  refine k_sub [2, 1, 3, 0] rfl ?_
  exact kk
theorem bX13_digest_211 (B : Bd p s m args meth c cX13_digest 5 (wsOf yX13_digest cX13_digest 5 (some .long)) RX13 w (some .long) "digest") {v0 : Nat} {v1 : Int64} {v3 : Int32} {k n : Nat} {Q : State → Prop}  (kk : K p l e rX13_digest s m args below meth c 5 w k n Q S 173 [(0, .ref v0), (1, .long v1), (3, .int (v3 + 1))] []) : K p l e rX13_digest s m args below meth c 5 w k n Q S 211 [(0, .ref v0), (1, .long v1), (3, .int v3)] [] := by
  refine k_iinc (v := v3 + 1) (lst' := [(3, .int (v3 + 1)), (0, .ref v0), (1, .long v1)]) B 2 rfl rfl (by decide) rfl dX13_digest_211 ?_
  refine k_goto (tgt := 173) B dX13_digest_214 (by decide) ?_
  refine k_sub [1, 2, 0] rfl ?_
  exact kk
theorem bX13_digest_217 (B : Bd p s m args meth c cX13_digest 5 (wsOf yX13_digest cX13_digest 5 (some .long)) RX13 w (some .long) "digest") {v0 : Nat} {v1 : Int64} {k n : Nat} {Q : State → Prop}  (kk : K p l e rX13_digest s m args below meth c 5 w k n Q S 219 [(0, .ref v0), (1, .long v1), (3, .int 0)] []) : K p l e rX13_digest s m args below meth c 5 w k n Q S 217 [(0, .ref v0), (1, .long v1)] [] := by
  refine k_iconst (v := 0) B (by decide) dX13_digest_217 ?_
  refine k_istore_n (lst' := [(3, .int 0), (0, .ref v0), (1, .long v1)]) B rfl (by decide) rfl dX13_digest_218 ?_
  refine k_sub [1, 2, 0] rfl ?_
  exact kk
theorem bX13_digest_219 (B : Bd p s m args meth c cX13_digest 5 (wsOf yX13_digest cX13_digest 5 (some .long)) RX13 w (some .long) "digest") {v0 : Nat} {v1 : Int64} {v3 : Int32} {k n : Nat} {Q : State → Prop} (h1 : kd S v0 = 15) (kt : (gI S 913 v0) ≤ v3 → K p l e rX13_digest s m args below meth c 5 w k n Q S 264 [(0, .ref v0), (1, .long v1)] []) (kf : ¬ (gI S 913 v0) ≤ v3 → K p l e rX13_digest s m args below meth c 5 w k n Q S 227 [(0, .ref v0), (1, .long v1), (3, .int v3)] []) : K p l e rX13_digest s m args below meth c 5 w k n Q S 219 [(0, .ref v0), (1, .long v1), (3, .int v3)] [] := by
  refine k_iload_n B 2 rfl rfl dX13_digest_219 ?_
  refine k_aload_n B 0 rfl rfl dX13_digest_220 ?_
  refine k_getI (f := 913) (v := gI S 913 v0) B 14 17 rfl (by decide) rfl (by decide) rfl rfl (fun w h => in_of (uw_14 w h)) (in_of qfRX13_117) dX13_digest_221 h1 rfl ?_
  refine k_icmp_ge (tgt := 264) B dX13_digest_224 (by decide) (fun c => ?_) (fun c => ?_)
  · refine k_sub [0, 1] rfl ?_
    exact kt c
  · exact kf c
theorem bX13_digest_227 (B : Bd p s m args meth c cX13_digest 5 (wsOf yX13_digest cX13_digest 5 (some .long)) RX13 w (some .long) "digest") {v0 : Nat} {v1 : Int64} {v3 : Int32} {k n : Nat} {Q : State → Prop}  (kk : K p l e rX13_digest s m args below meth c 5 w k n Q S 230 [(0, .ref v0), (1, .long v1), (3, .int v3), (4, .int 0)] []) : K p l e rX13_digest s m args below meth c 5 w k n Q S 227 [(0, .ref v0), (1, .long v1), (3, .int v3)] [] := by
  refine k_iconst (v := 0) B (by decide) dX13_digest_227 ?_
  refine k_istore (lst' := [(4, .int 0), (0, .ref v0), (1, .long v1), (3, .int v3)]) B (by decide) rfl dX13_digest_228 ?_
  refine k_sub [1, 2, 3, 0] rfl ?_
  exact kk
theorem bX13_digest_230 (B : Bd p s m args meth c cX13_digest 5 (wsOf yX13_digest cX13_digest 5 (some .long)) RX13 w (some .long) "digest") {v0 : Nat} {v1 : Int64} {v3 : Int32} {v4 : Int32} {k n : Nat} {Q : State → Prop}  (kt : 8 < v4 → K p l e rX13_digest s m args below meth c 5 w k n Q S 258 [(0, .ref v0), (1, .long v1), (3, .int v3)] []) (kf : ¬ 8 < v4 → K p l e rX13_digest s m args below meth c 5 w k n Q S 237 [(0, .ref v0), (1, .long v1), (3, .int v3), (4, .int v4)] []) : K p l e rX13_digest s m args below meth c 5 w k n Q S 230 [(0, .ref v0), (1, .long v1), (3, .int v3), (4, .int v4)] [] := by
  refine k_iload B 3 rfl dX13_digest_230 ?_
  refine k_bipush (v := 8) B (by decide) dX13_digest_232 ?_
  refine k_icmp_gt (tgt := 258) B dX13_digest_234 (by decide) (fun c => ?_) (fun c => ?_)
  · refine k_sub [0, 1, 2] rfl ?_
    exact kt c
  · exact kf c
theorem bX13_digest_237 (B : Bd p s m args meth c cX13_digest 5 (wsOf yX13_digest cX13_digest 5 (some .long)) RX13 w (some .long) "digest") {v0 : Nat} {v1 : Int64} {v3 : Int32} {v4 : Int32} {post : Int32 → St → Prop} {k n : Nat} {Q : State → Prop} (hc : ConI l yX13_parcelTold (wsOf yX13_parcelTold cX13_parcelTold 4 (some .int)) rX13_parcelTold w S [.ref v0, .int v3, .int v4] post) (h1 : k + 1 ≤ rX13_digest.cells) (h2 : n + 9 ≤ rX13_digest.slots) (h3 : kd S v0 = 15) (kk : ∀ (r : Int32) (S' : St), post r S' → K p l e rX13_digest s m args below meth c 5 w (k + 1) (n + 9) Q S' 249 [(0, .ref v0), (3, .int v3), (4, .int v4)] [.int r, .long (v1 * 31)]) : K p l e rX13_digest s m args below meth c 5 w k n Q S 237 [(0, .ref v0), (1, .long v1), (3, .int v3), (4, .int v4)] [] := by
  refine k_lload_n B 1 rfl rfl dX13_digest_237 ?_
  refine k_ldc2 (v := 31) B (in_of qtRX13_273) dX13_digest_238 ?_
  refine k_lmul B dX13_digest_241 ?_
  refine k_aload_n B 0 rfl rfl dX13_digest_242 ?_
  refine k_iload_n B 2 rfl rfl dX13_digest_243 ?_
  refine k_iload B 3 rfl dX13_digest_244 ?_
  refine callV_I (st := [.long (v1 * 31)]) B [.int v3, .int v4] (hc) (cwV 2 B.1.2.2.2.2 (gV qlRX13_166 qiX13_parcelTold qeX13_parcelTold qzRX13 qcX13_parcelTold) rfl rfl rfl (by decide +kernel) ⟨Nat.le_of_ble_eq_true rfl, Nat.le_of_ble_eq_true rfl⟩) rfl rfl (by decide) h3 (Nat.le_of_ble_eq_true rfl) rfl dX13_digest_246 ⟨h1, h2⟩ (fun r S' hp => ?_)
  refine k_sub [0, 2, 3] rfl ?_
  exact kk r S' hp
theorem bX13_digest_249 (B : Bd p s m args meth c cX13_digest 5 (wsOf yX13_digest cX13_digest 5 (some .long)) RX13 w (some .long) "digest") {v0 : Nat} {v3 : Int32} {v4 : Int32} {t0 : Int64} {t1 : Int32} {k n : Nat} {Q : State → Prop}  (kk : K p l e rX13_digest s m args below meth c 5 w k n Q S 230 [(0, .ref v0), (1, .long (t0 + (t1.toInt64))), (3, .int v3), (4, .int (v4 + 1))] []) : K p l e rX13_digest s m args below meth c 5 w k n Q S 249 [(0, .ref v0), (3, .int v3), (4, .int v4)] [.int t1, .long t0] := by
  refine k_i2l B dX13_digest_249 ?_
  refine k_ladd B dX13_digest_250 ?_
  refine k_lstore_n (lst' := [(1, .long (t0 + (t1.toInt64))), (0, .ref v0), (3, .int v3), (4, .int v4)]) B rfl (by decide) rfl dX13_digest_251 ?_
  refine k_iinc (v := v4 + 1) (lst' := [(4, .int (v4 + 1)), (1, .long (t0 + (t1.toInt64))), (0, .ref v0), (3, .int v3)]) B 3 rfl rfl (by decide) rfl dX13_digest_252 ?_
  refine k_goto (tgt := 230) B dX13_digest_255 (by decide) ?_
  refine k_sub [2, 1, 3, 0] rfl ?_
  exact kk
theorem bX13_digest_258 (B : Bd p s m args meth c cX13_digest 5 (wsOf yX13_digest cX13_digest 5 (some .long)) RX13 w (some .long) "digest") {v0 : Nat} {v1 : Int64} {v3 : Int32} {k n : Nat} {Q : State → Prop}  (kk : K p l e rX13_digest s m args below meth c 5 w k n Q S 219 [(0, .ref v0), (1, .long v1), (3, .int (v3 + 1))] []) : K p l e rX13_digest s m args below meth c 5 w k n Q S 258 [(0, .ref v0), (1, .long v1), (3, .int v3)] [] := by
  refine k_iinc (v := v3 + 1) (lst' := [(3, .int (v3 + 1)), (0, .ref v0), (1, .long v1)]) B 2 rfl rfl (by decide) rfl dX13_digest_258 ?_
  refine k_goto (tgt := 219) B dX13_digest_261 (by decide) ?_
  refine k_sub [1, 2, 0] rfl ?_
  exact kk
theorem bX13_digest_264 (B : Bd p s m args meth c cX13_digest 5 (wsOf yX13_digest cX13_digest 5 (some .long)) RX13 w (some .long) "digest") {v0 : Nat} {v1 : Int64} {k n : Nat} {Q : State → Prop}  (kk : K p l e rX13_digest s m args below meth c 5 w k n Q S 266 [(0, .ref v0), (1, .long v1), (3, .int 0)] []) : K p l e rX13_digest s m args below meth c 5 w k n Q S 264 [(0, .ref v0), (1, .long v1)] [] := by
  refine k_iconst (v := 0) B (by decide) dX13_digest_264 ?_
  refine k_istore_n (lst' := [(3, .int 0), (0, .ref v0), (1, .long v1)]) B rfl (by decide) rfl dX13_digest_265 ?_
  refine k_sub [1, 2, 0] rfl ?_
  exact kk
theorem bX13_digest_266 (B : Bd p s m args meth c cX13_digest 5 (wsOf yX13_digest cX13_digest 5 (some .long)) RX13 w (some .long) "digest") {v0 : Nat} {v1 : Int64} {v3 : Int32} {k n : Nat} {Q : State → Prop} (h1 : kd S v0 = 15) (kt : (gI S 909 v0) ≤ v3 → K p l e rX13_digest s m args below meth c 5 w k n Q S 357 [(1, .long v1)] []) (kf : ¬ (gI S 909 v0) ≤ v3 → K p l e rX13_digest s m args below meth c 5 w k n Q S 274 [(0, .ref v0), (1, .long v1), (3, .int v3)] []) : K p l e rX13_digest s m args below meth c 5 w k n Q S 266 [(0, .ref v0), (1, .long v1), (3, .int v3)] [] := by
  refine k_iload_n B 2 rfl rfl dX13_digest_266 ?_
  refine k_aload_n B 0 rfl rfl dX13_digest_267 ?_
  refine k_getI (f := 909) (v := gI S 909 v0) B 14 13 rfl (by decide) rfl (by decide) rfl rfl (fun w h => in_of (uw_14 w h)) (in_of qfRX13_114) dX13_digest_268 h1 rfl ?_
  refine k_icmp_ge (tgt := 357) B dX13_digest_271 (by decide) (fun c => ?_) (fun c => ?_)
  · refine k_sub [1] rfl ?_
    exact kt c
  · exact kf c
theorem bX13_digest_274 (B : Bd p s m args meth c cX13_digest 5 (wsOf yX13_digest cX13_digest 5 (some .long)) RX13 w (some .long) "digest") {v0 : Nat} {v1 : Int64} {v3 : Int32} {k n : Nat} {Q : State → Prop}  (kk : K p l e rX13_digest s m args below meth c 5 w k n Q S 277 [(0, .ref v0), (1, .long v1), (3, .int v3), (4, .int 0)] []) : K p l e rX13_digest s m args below meth c 5 w k n Q S 274 [(0, .ref v0), (1, .long v1), (3, .int v3)] [] := by
  refine k_iconst (v := 0) B (by decide) dX13_digest_274 ?_
  refine k_istore (lst' := [(4, .int 0), (0, .ref v0), (1, .long v1), (3, .int v3)]) B (by decide) rfl dX13_digest_275 ?_
  refine k_sub [1, 2, 3, 0] rfl ?_
  exact kk
theorem bX13_digest_277 (B : Bd p s m args meth c cX13_digest 5 (wsOf yX13_digest cX13_digest 5 (some .long)) RX13 w (some .long) "digest") {v0 : Nat} {v1 : Int64} {v3 : Int32} {v4 : Int32} {k n : Nat} {Q : State → Prop}  (kt : 9 < v4 → K p l e rX13_digest s m args below meth c 5 w k n Q S 305 [(0, .ref v0), (1, .long v1), (3, .int v3)] []) (kf : ¬ 9 < v4 → K p l e rX13_digest s m args below meth c 5 w k n Q S 284 [(0, .ref v0), (1, .long v1), (3, .int v3), (4, .int v4)] []) : K p l e rX13_digest s m args below meth c 5 w k n Q S 277 [(0, .ref v0), (1, .long v1), (3, .int v3), (4, .int v4)] [] := by
  refine k_iload B 3 rfl dX13_digest_277 ?_
  refine k_bipush (v := 9) B (by decide) dX13_digest_279 ?_
  refine k_icmp_gt (tgt := 305) B dX13_digest_281 (by decide) (fun c => ?_) (fun c => ?_)
  · refine k_sub [0, 1, 2] rfl ?_
    exact kt c
  · exact kf c
theorem bX13_digest_284 (B : Bd p s m args meth c cX13_digest 5 (wsOf yX13_digest cX13_digest 5 (some .long)) RX13 w (some .long) "digest") {v0 : Nat} {v1 : Int64} {v3 : Int32} {v4 : Int32} {post : Int32 → St → Prop} {k n : Nat} {Q : State → Prop} (hc : ConI l yX13_vanTold (wsOf yX13_vanTold cX13_vanTold 5 (some .int)) rX13_vanTold w S [.ref v0, .int v3, .int v4] post) (h1 : k + 1 ≤ rX13_digest.cells) (h2 : n + 10 ≤ rX13_digest.slots) (h3 : kd S v0 = 15) (kk : ∀ (r : Int32) (S' : St), post r S' → K p l e rX13_digest s m args below meth c 5 w (k + 1) (n + 10) Q S' 296 [(0, .ref v0), (3, .int v3), (4, .int v4)] [.int r, .long (v1 * 31)]) : K p l e rX13_digest s m args below meth c 5 w k n Q S 284 [(0, .ref v0), (1, .long v1), (3, .int v3), (4, .int v4)] [] := by
  refine k_lload_n B 1 rfl rfl dX13_digest_284 ?_
  refine k_ldc2 (v := 31) B (in_of qtRX13_273) dX13_digest_285 ?_
  refine k_lmul B dX13_digest_288 ?_
  refine k_aload_n B 0 rfl rfl dX13_digest_289 ?_
  refine k_iload_n B 2 rfl rfl dX13_digest_290 ?_
  refine k_iload B 3 rfl dX13_digest_291 ?_
  refine callV_I (st := [.long (v1 * 31)]) B [.int v3, .int v4] (hc) (cwV 2 B.1.2.2.2.2 (gV qlRX13_234 qiX13_vanTold qeX13_vanTold qzRX13 qcX13_vanTold) rfl rfl rfl (by decide +kernel) ⟨Nat.le_of_ble_eq_true rfl, Nat.le_of_ble_eq_true rfl⟩) rfl rfl (by decide) h3 (Nat.le_of_ble_eq_true rfl) rfl dX13_digest_293 ⟨h1, h2⟩ (fun r S' hp => ?_)
  refine k_sub [0, 2, 3] rfl ?_
  exact kk r S' hp
theorem bX13_digest_296 (B : Bd p s m args meth c cX13_digest 5 (wsOf yX13_digest cX13_digest 5 (some .long)) RX13 w (some .long) "digest") {v0 : Nat} {v3 : Int32} {v4 : Int32} {t0 : Int64} {t1 : Int32} {k n : Nat} {Q : State → Prop}  (kk : K p l e rX13_digest s m args below meth c 5 w k n Q S 277 [(0, .ref v0), (1, .long (t0 + (t1.toInt64))), (3, .int v3), (4, .int (v4 + 1))] []) : K p l e rX13_digest s m args below meth c 5 w k n Q S 296 [(0, .ref v0), (3, .int v3), (4, .int v4)] [.int t1, .long t0] := by
  refine k_i2l B dX13_digest_296 ?_
  refine k_ladd B dX13_digest_297 ?_
  refine k_lstore_n (lst' := [(1, .long (t0 + (t1.toInt64))), (0, .ref v0), (3, .int v3), (4, .int v4)]) B rfl (by decide) rfl dX13_digest_298 ?_
  refine k_iinc (v := v4 + 1) (lst' := [(4, .int (v4 + 1)), (1, .long (t0 + (t1.toInt64))), (0, .ref v0), (3, .int v3)]) B 3 rfl rfl (by decide) rfl dX13_digest_299 ?_
  refine k_goto (tgt := 277) B dX13_digest_302 (by decide) ?_
  refine k_sub [2, 1, 3, 0] rfl ?_
  exact kk
theorem bX13_digest_305 (B : Bd p s m args meth c cX13_digest 5 (wsOf yX13_digest cX13_digest 5 (some .long)) RX13 w (some .long) "digest") {v0 : Nat} {v1 : Int64} {v3 : Int32} {k n : Nat} {Q : State → Prop}  (kk : K p l e rX13_digest s m args below meth c 5 w k n Q S 308 [(0, .ref v0), (1, .long v1), (3, .int v3), (4, .int 0)] []) : K p l e rX13_digest s m args below meth c 5 w k n Q S 305 [(0, .ref v0), (1, .long v1), (3, .int v3)] [] := by
  refine k_iconst (v := 0) B (by decide) dX13_digest_305 ?_
  refine k_istore (lst' := [(4, .int 0), (0, .ref v0), (1, .long v1), (3, .int v3)]) B (by decide) rfl dX13_digest_306 ?_
  refine k_sub [1, 2, 3, 0] rfl ?_
  exact kk
theorem bX13_digest_308 (B : Bd p s m args meth c cX13_digest 5 (wsOf yX13_digest cX13_digest 5 (some .long)) RX13 w (some .long) "digest") {v0 : Nat} {v1 : Int64} {v3 : Int32} {v4 : Int32} {x1 : Nat} {x2 : Nat} {k n : Nat} {Q : State → Prop} (h1 : kd S v0 = 15) (h2 : gP S 919 v0 = some x1) (h3 : kd S x1 = 14) (h4 : gP S 840 x1 = some x2) (h5 : kd S x2 = 21) (h6 : vp_in v3 (ln S x2)) (kt : ((rI S x2) v3.toNatClampNeg) ≤ v4 → K p l e rX13_digest s m args below meth c 5 w k n Q S 351 [(0, .ref v0), (1, .long v1), (3, .int v3)] []) (kf : ¬ ((rI S x2) v3.toNatClampNeg) ≤ v4 → K p l e rX13_digest s m args below meth c 5 w k n Q S 322 [(0, .ref v0), (1, .long v1), (3, .int v3), (4, .int v4)] []) : K p l e rX13_digest s m args below meth c 5 w k n Q S 308 [(0, .ref v0), (1, .long v1), (3, .int v3), (4, .int v4)] [] := by
  refine k_iload B 3 rfl dX13_digest_308 ?_
  refine k_aload_n B 0 rfl rfl dX13_digest_310 ?_
  refine k_getP (f := 919) (r := gP S 919 v0) B 14 23 rfl (by decide) rfl (by decide) rfl rfl (fun w h => in_of (uw_14 w h)) (in_of qfRX13_70) dX13_digest_311 h1 rfl ?_
  rw [h2]; change K _ _ _ _ _ _ _ _ _ _ _ _ _ _ _ _ _ _ (.ref x1 :: _)
  refine k_getPN (f := 840) (r := gP S 840 x1) B 13 8 rfl (by decide) rfl (by decide) rfl rfl (fun w h => in_of (uw_13 w h)) "LastMileModel" (nzF_5 B.2.2.2.1.2.2.2.1) dX13_digest_314 h3 rfl ?_
  rw [h4]; change K _ _ _ _ _ _ _ _ _ _ _ _ _ _ _ _ _ _ (.ref x2 :: _)
  refine k_iload_n B 2 rfl rfl dX13_digest_317 ?_
  refine k_iald (v := (rI S x2) v3.toNatClampNeg) B dX13_digest_318 h5 h6 rfl ?_
  refine k_icmp_ge (tgt := 351) B dX13_digest_319 (by decide) (fun c => ?_) (fun c => ?_)
  · refine k_sub [0, 1, 2] rfl ?_
    exact kt c
  · exact kf c
theorem bX13_digest_322 (B : Bd p s m args meth c cX13_digest 5 (wsOf yX13_digest cX13_digest 5 (some .long)) RX13 w (some .long) "digest") {v0 : Nat} {v1 : Int64} {v3 : Int32} {v4 : Int32} {x1 : Nat} {x2 : Nat} {k n : Nat} {Q : State → Prop} (h1 : kd S v0 = 15) (h2 : gP S 919 v0 = some x1) (h3 : kd S x1 = 14) (h4 : gP S 841 x1 = some x2) (h5 : kd S x2 = 21) (h6 : vp_in ((12 * v3) + v4) (ln S x2)) (kk : K p l e rX13_digest s m args below meth c 5 w k n Q S 308 [(0, .ref v0), (1, .long ((v1 * 31) + (((rI S x2) ((12 * v3) + v4).toNatClampNeg).toInt64))), (3, .int v3), (4, .int (v4 + 1))] []) : K p l e rX13_digest s m args below meth c 5 w k n Q S 322 [(0, .ref v0), (1, .long v1), (3, .int v3), (4, .int v4)] [] := by
  refine k_lload_n B 1 rfl rfl dX13_digest_322 ?_
  refine k_ldc2 (v := 31) B (in_of qtRX13_273) dX13_digest_323 ?_
  refine k_lmul B dX13_digest_326 ?_
  refine k_aload_n B 0 rfl rfl dX13_digest_327 ?_
  refine k_getP (f := 919) (r := gP S 919 v0) B 14 23 rfl (by decide) rfl (by decide) rfl rfl (fun w h => in_of (uw_14 w h)) (in_of qfRX13_70) dX13_digest_328 h1 rfl ?_
  rw [h2]; change K _ _ _ _ _ _ _ _ _ _ _ _ _ _ _ _ _ _ (.ref x1 :: _)
  refine k_getPN (f := 841) (r := gP S 841 x1) B 13 9 rfl (by decide) rfl (by decide) rfl rfl (fun w h => in_of (uw_13 w h)) "LastMileModel" (nzF_6 B.2.2.2.1.2.2.2.1) dX13_digest_331 h3 rfl ?_
  rw [h4]; change K _ _ _ _ _ _ _ _ _ _ _ _ _ _ _ _ _ _ (.ref x2 :: _)
  refine k_bipush (v := 12) B (by decide) dX13_digest_334 ?_
  refine k_iload_n B 2 rfl rfl dX13_digest_336 ?_
  refine k_imul B dX13_digest_337 ?_
  refine k_iload B 3 rfl dX13_digest_338 ?_
  refine k_iadd B dX13_digest_340 ?_
  refine k_iald (v := (rI S x2) ((12 * v3) + v4).toNatClampNeg) B dX13_digest_341 h5 h6 rfl ?_
  refine k_i2l B dX13_digest_342 ?_
  refine k_ladd B dX13_digest_343 ?_
  refine k_lstore_n (lst' := [(1, .long ((v1 * 31) + (((rI S x2) ((12 * v3) + v4).toNatClampNeg).toInt64))), (0, .ref v0), (3, .int v3), (4, .int v4)]) B rfl (by decide) rfl dX13_digest_344 ?_
  refine k_iinc (v := v4 + 1) (lst' := [(4, .int (v4 + 1)), (1, .long ((v1 * 31) + (((rI S x2) ((12 * v3) + v4).toNatClampNeg).toInt64))), (0, .ref v0), (3, .int v3)]) B 3 rfl rfl (by decide) rfl dX13_digest_345 ?_
  refine k_goto (tgt := 308) B dX13_digest_348 (by decide) ?_
  refine k_sub [2, 1, 3, 0] rfl ?_
  exact kk
theorem bX13_digest_351 (B : Bd p s m args meth c cX13_digest 5 (wsOf yX13_digest cX13_digest 5 (some .long)) RX13 w (some .long) "digest") {v0 : Nat} {v1 : Int64} {v3 : Int32} {k n : Nat} {Q : State → Prop}  (kk : K p l e rX13_digest s m args below meth c 5 w k n Q S 266 [(0, .ref v0), (1, .long v1), (3, .int (v3 + 1))] []) : K p l e rX13_digest s m args below meth c 5 w k n Q S 351 [(0, .ref v0), (1, .long v1), (3, .int v3)] [] := by
  refine k_iinc (v := v3 + 1) (lst' := [(3, .int (v3 + 1)), (0, .ref v0), (1, .long v1)]) B 2 rfl rfl (by decide) rfl dX13_digest_351 ?_
  refine k_goto (tgt := 266) B dX13_digest_354 (by decide) ?_
  refine k_sub [1, 2, 0] rfl ?_
  exact kk
theorem bX13_digest_357 (B : Bd p s m args meth c cX13_digest 5 (wsOf yX13_digest cX13_digest 5 (some .long)) RX13 w (some .long) "digest") {v1 : Int64} {post : Int64 → St → Prop} {k n : Nat}  (hq : post v1 S) : K p l e rX13_digest s m args below meth c 5 w k n (MQ below (va_Ql post (fun S' t => Hd w S' t.heap) (wA w)) args s k n (wA w)) S 357 [(1, .long v1)] [] := by
  refine k_lload_n B 0 rfl rfl dX13_digest_357 ?_
  exact ret_L B rfl dX13_digest_358 (hq)
end BL
