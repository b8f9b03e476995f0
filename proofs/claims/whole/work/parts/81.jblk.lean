theorem qlRJxa1e45_1 : Cond.methodLink RJxa1e45 1 objectInit ∈ WS := in_t1 83 rfl rfl
theorem qcJxa1e45_init_da8c8 : Cond.code yJxa1e45_init_da8c8 cJxa1e45_init_da8c8 1 none ∈ WS := in_t1 82 rfl rfl
theorem qzRJxa1e45 : Cond.initialized RJxa1e45 ∈ WS := in_t1 4 rfl rfl
theorem qlRJxc12de_1 : Cond.methodLink RJxc12de 1 yJxa1e45_init_da8c8 ∈ WS := in_t1 80 rfl rfl
theorem qiJxa1e45_init_da8c8 : Cond.instanceMethod yJxa1e45_init_da8c8 ∈ WS := in_t1 81 rfl rfl
theorem qfRJxc12de_7 : Cond.fieldLink RJxc12de 7 "java/util/AbstractList" "modCount" "I" ∈ WS := in_t1 88 rfl rfl
theorem qcJxc12de_init_da8c8 : Cond.code yJxc12de_init_da8c8 cJxc12de_init_da8c8 1 none ∈ WS := in_t1 79 rfl rfl
theorem qzRJxc12de : Cond.initialized RJxc12de ∈ WS := in_t1 5 rfl rfl
theorem qlRJx4a65c_1 : Cond.methodLink RJx4a65c 1 yJxc12de_init_da8c8 ∈ WS := in_t1 77 rfl rfl
theorem qiJxc12de_init_da8c8 : Cond.instanceMethod yJxc12de_init_da8c8 ∈ WS := in_t1 78 rfl rfl
theorem qfRJx4a65c_39 : Cond.fieldLink RJx4a65c 39 "java/util/ArrayList" "DEFAULTCAPACITY_EMPTY_ELEMENTDATA" "[Ljava/lang/Object;" ∈ WS := in_t1 84 rfl rfl
theorem qfRJx4a65c_9 : Cond.fieldLink RJx4a65c 9 "java/util/ArrayList" "elementData" "[Ljava/lang/Object;" ∈ WS := in_t1 86 rfl rfl
theorem qfRJx4a65c_48 : Cond.fieldLink RJx4a65c 48 "java/util/ArrayList" "size" "I" ∈ WS := in_t1 87 rfl rfl
theorem qlRJ15_105 : Cond.methodLink RJ15 105 yJ3_checkIndex_8e157 ∈ WS := in_t2 38 rfl rfl
theorem qsJ3_checkIndex_8e157 : Cond.static yJ3_checkIndex_8e157 ∈ WS := in_t2 39 rfl rfl
theorem qzRJ3 : Cond.initialized RJ3 ∈ WS := in_t1 26 rfl rfl
theorem qcJ3_checkIndex_8e157 : Cond.code yJ3_checkIndex_8e157 cJ3_checkIndex_8e157 3 (some .int) ∈ WS := in_t2 40 rfl rfl
theorem qlRJx4a65c_118 : Cond.methodLink RJx4a65c 118 yJ15_checkIndex_7cf53 ∈ WS := in_t2 35 rfl rfl
theorem qsJ15_checkIndex_7cf53 : Cond.static yJ15_checkIndex_7cf53 ∈ WS := in_t2 36 rfl rfl
theorem qzRJ15 : Cond.initialized RJ15 ∈ WS := in_t1 25 rfl rfl
theorem qcJ15_checkIndex_7cf53 : Cond.code yJ15_checkIndex_7cf53 cJ15_checkIndex_7cf53 2 (some .int) ∈ WS := in_t2 37 rfl rfl
theorem qlRJx4a65c_123 : Cond.methodLink RJx4a65c 123 yJx4a65c_elementData_915e3 ∈ WS := in_t2 41 rfl rfl
theorem qiJx4a65c_elementData_915e3 : Cond.instanceMethod yJx4a65c_elementData_915e3 ∈ WS := in_t2 42 rfl rfl
theorem qeJx4a65c_elementData_915e3 : Cond.selects RJx4a65c yJx4a65c_elementData_915e3 yJx4a65c_elementData_915e3 ∈ WS := in_t2 43 rfl rfl
theorem qcJx4a65c_elementData_915e3 : Cond.code yJx4a65c_elementData_915e3 cJx4a65c_elementData_915e3 2 (some (.object "java/lang/Object")) ∈ WS := in_t2 44 rfl rfl
theorem qlRJ8_194 : Cond.methodLink RJ8 194 Lib.Math.max.name ∈ WS := in_t3 232 rfl rfl
theorem qtRJ8_200 : Cond.constant RJ8 200 2147483639 ∈ WS := in_t3 235 rfl rfl
theorem qlRJ8_201 : Cond.methodLink RJ8 201 yJ8_hugeLength_7cf53 ∈ WS := in_t3 236 rfl rfl
theorem qsJ8_hugeLength_7cf53 : Cond.static yJ8_hugeLength_7cf53 ∈ WS := in_t3 237 rfl rfl
theorem qzRJ8 : Cond.initialized RJ8 ∈ WS := in_t1 22 rfl rfl
theorem qcJ8_hugeLength_7cf53 : Cond.code yJ8_hugeLength_7cf53 cJ8_hugeLength_7cf53 3 (some .int) ∈ WS := in_t3 238 rfl rfl
theorem qkRJ7_110 : Cond.classLink RJ7 110 "[Ljava/lang/Object;" ∈ WS := in_t4 27 rfl rfl
theorem qkRJ7_2 : Cond.classLink RJ7 2 "java/lang/Object" ∈ WS := in_t4 29 rfl rfl
theorem qlRJ7_304 : Cond.methodLink RJ7 304 Lib.Math.min.name ∈ WS := in_t4 30 rfl rfl
theorem qs_min : Cond.static Lib.Math.min.name ∈ WS := in_t4 31 rfl rfl
theorem qc_min : Cond.code Lib.Math.min.name Lib.Math.min.code 2 (some .int) ∈ WS := in_t4 32 rfl rfl
theorem qlRJ7_150 : Cond.methodLink RJ7 150 arraycopyName ∈ WS := in_t4 33 rfl rfl
theorem qlRJ7_86 : Cond.methodLink RJ7 86 gcN ∈ WS := in_t4 2 rfl rfl
theorem qsel_gc : Cond.selects "[Ljava/lang/Object;" gcN gcN ∈ WS := in_t7 109 rfl rfl
theorem qi_gc : Cond.instanceMethod gcN ∈ WS := in_t4 3 rfl rfl
theorem qnat_gc : Cond.native gcN ∈ WS := in_t4 23 rfl rfl
theorem qlRJ7_300 : Cond.methodLink RJ7 300 yJ7_copyOf_6403c ∈ WS := in_t4 24 rfl rfl
theorem qsJ7_copyOf_6403c : Cond.static yJ7_copyOf_6403c ∈ WS := in_t4 25 rfl rfl
theorem qcJ7_copyOf_6403c : Cond.code yJ7_copyOf_6403c cJ7_copyOf_6403c 4 (some (.array (.object "java/lang/Object"))) ∈ WS := in_t4 26 rfl rfl
theorem qlRJx4a65c_73 : Cond.methodLink RJx4a65c 73 yJ8_newLength_cabcc ∈ WS := in_t3 229 rfl rfl
theorem qsJ8_newLength_cabcc : Cond.static yJ8_newLength_cabcc ∈ WS := in_t3 230 rfl rfl
theorem qcJ8_newLength_cabcc : Cond.code yJ8_newLength_cabcc cJ8_newLength_cabcc 4 (some .int) ∈ WS := in_t3 231 rfl rfl
theorem qlRJx4a65c_66 : Cond.methodLink RJx4a65c 66 yJ7_copyOf_1904c ∈ WS := in_t3 239 rfl rfl
theorem qsJ7_copyOf_1904c : Cond.static yJ7_copyOf_1904c ∈ WS := in_t4 0 rfl rfl
theorem qcJ7_copyOf_1904c : Cond.code yJ7_copyOf_1904c cJ7_copyOf_1904c 2 (some (.array (.object "java/lang/Object"))) ∈ WS := in_t4 1 rfl rfl
theorem qlRJx4a65c_79 : Cond.methodLink RJx4a65c 79 Lib.Math.max.name ∈ WS := in_t4 36 rfl rfl
theorem qkRJx4a65c_7 : Cond.classLink RJx4a65c 7 "java/lang/Object" ∈ WS := in_t4 37 rfl rfl
theorem qlRJx4a65c_69 : Cond.methodLink RJx4a65c 69 yJx4a65c_grow_92f84 ∈ WS := in_t3 225 rfl rfl
theorem qiJx4a65c_grow_92f84 : Cond.instanceMethod yJx4a65c_grow_92f84 ∈ WS := in_t3 227 rfl rfl
theorem qeJx4a65c_grow_92f84 : Cond.selects RJx4a65c yJx4a65c_grow_92f84 yJx4a65c_grow_92f84 ∈ WS := in_p2 12 rfl rfl
theorem qcJx4a65c_grow_92f84 : Cond.code yJx4a65c_grow_92f84 cJx4a65c_grow_92f84 4 (some (.array (.object "java/lang/Object"))) ∈ WS := in_t3 228 rfl rfl
theorem qlRJx4a65c_129 : Cond.methodLink RJx4a65c 129 yJx4a65c_grow_d5877 ∈ WS := in_t3 221 rfl rfl
theorem qiJx4a65c_grow_d5877 : Cond.instanceMethod yJx4a65c_grow_d5877 ∈ WS := in_t3 223 rfl rfl
theorem qeJx4a65c_grow_d5877 : Cond.selects RJx4a65c yJx4a65c_grow_d5877 yJx4a65c_grow_d5877 ∈ WS := in_p2 11 rfl rfl
theorem qcJx4a65c_grow_d5877 : Cond.code yJx4a65c_grow_d5877 cJx4a65c_grow_d5877 1 (some (.array (.object "java/lang/Object"))) ∈ WS := in_t3 224 rfl rfl
theorem qfRJx4a65c_63 : Cond.fieldLink RJx4a65c 63 "java/util/ArrayList" "modCount" "I" ∈ WS := in_t1 89 rfl rfl
theorem qsame : Cond.sameField "java/util/ArrayList" "java/util/AbstractList" "modCount" "I" ∈ WS := in_t1 90 rfl rfl
theorem qlRJx4a65c_131 : Cond.methodLink RJx4a65c 131 yJx4a65c_add_72be8 ∈ WS := in_t3 217 rfl rfl
theorem qiJx4a65c_add_72be8 : Cond.instanceMethod yJx4a65c_add_72be8 ∈ WS := in_t3 219 rfl rfl
theorem qeJx4a65c_add_72be8 : Cond.selects RJx4a65c yJx4a65c_add_72be8 yJx4a65c_add_72be8 ∈ WS := in_p2 10 rfl rfl
theorem qcJx4a65c_add_72be8 : Cond.code yJx4a65c_add_72be8 cJx4a65c_add_72be8 4 none ∈ WS := in_t3 220 rfl rfl
def rJxa1e45_init_da8c8 : Room := { frames := 1, cells := 0, slots := 0, locals := 64 }
def rJxc12de_init_da8c8 : Room := { frames := 2, cells := 0, slots := 0, locals := 84 }
def rJx4a65c_isEmpty_aae02 : Room := { frames := 0, cells := 0, slots := 0, locals := 0 }
def rJx4a65c_elementData_915e3 : Room := { frames := 0, cells := 0, slots := 0, locals := 0 }
def rJ3_checkIndex_8e157 : Room := { frames := 1, cells := 0, slots := 0, locals := 64 }
def rJ15_checkIndex_7cf53 : Room := { frames := 2, cells := 0, slots := 0, locals := 86 }
def rJ8_newLength_cabcc : Room := { frames := 2, cells := 0, slots := 0, locals := 86 }
def rJ8_hugeLength_7cf53 : Room := { frames := 1, cells := 0, slots := 0, locals := 64 }
def rJ7_copyOf_6403c : Room := { frames := 1, cells := 1, slots := 40, locals := 64 }
def rJ7_copyOf_1904c : Room := { frames := 2, cells := 1, slots := 40, locals := 87 }
def rJx4a65c_grow_92f84 : Room := { frames := 3, cells := 1, slots := 40, locals := 109 }
def rJx4a65c_grow_d5877 : Room := { frames := 4, cells := 1, slots := 40, locals := 132 }
def rJx4a65c_add_72be8 : Room := { frames := 5, cells := 1, slots := 40, locals := 152 }
theorem dJxa1e45_init_da8c8_0 : decode cJxa1e45_init_da8c8 0 = .ok (.aload_n 0, 1) := by decide +kernel
theorem dJxa1e45_init_da8c8_1 : decode cJxa1e45_init_da8c8 1 = .ok (.invokespecial 1, 3) := by decide +kernel
theorem dJxa1e45_init_da8c8_4 : decode cJxa1e45_init_da8c8 4 = .ok (.return_, 1) := by decide +kernel
theorem dJxc12de_init_da8c8_0 : decode cJxc12de_init_da8c8 0 = .ok (.aload_n 0, 1) := by decide +kernel
theorem dJxc12de_init_da8c8_1 : decode cJxc12de_init_da8c8 1 = .ok (.invokespecial 1, 3) := by decide +kernel
theorem dJxc12de_init_da8c8_4 : decode cJxc12de_init_da8c8 4 = .ok (.aload_n 0, 1) := by decide +kernel
theorem dJxc12de_init_da8c8_5 : decode cJxc12de_init_da8c8 5 = .ok (.iconst 0, 1) := by decide +kernel
theorem dJxc12de_init_da8c8_6 : decode cJxc12de_init_da8c8 6 = .ok (.putfield 7, 3) := by decide +kernel
theorem dJxc12de_init_da8c8_9 : decode cJxc12de_init_da8c8 9 = .ok (.return_, 1) := by decide +kernel
theorem dJx4a65c_init_da8c8_0 : decode cJx4a65c_init_da8c8 0 = .ok (.aload_n 0, 1) := by decide +kernel
theorem dJx4a65c_init_da8c8_1 : decode cJx4a65c_init_da8c8 1 = .ok (.invokespecial 1, 3) := by decide +kernel
theorem dJx4a65c_init_da8c8_4 : decode cJx4a65c_init_da8c8 4 = .ok (.aload_n 0, 1) := by decide +kernel
theorem dJx4a65c_init_da8c8_5 : decode cJx4a65c_init_da8c8 5 = .ok (.getstatic 39, 3) := by decide +kernel
theorem dJx4a65c_init_da8c8_8 : decode cJx4a65c_init_da8c8 8 = .ok (.putfield 9, 3) := by decide +kernel
theorem dJx4a65c_init_da8c8_11 : decode cJx4a65c_init_da8c8 11 = .ok (.return_, 1) := by decide +kernel
theorem dJx4a65c_size_8abf5_0 : decode cJx4a65c_size_8abf5 0 = .ok (.aload_n 0, 1) := by decide +kernel
theorem dJx4a65c_size_8abf5_1 : decode cJx4a65c_size_8abf5 1 = .ok (.getfield 48, 3) := by decide +kernel
theorem dJx4a65c_size_8abf5_4 : decode cJx4a65c_size_8abf5 4 = .ok (.ireturn, 1) := by decide +kernel
theorem dJx4a65c_isEmpty_aae02_0 : decode cJx4a65c_isEmpty_aae02 0 = .ok (.aload_n 0, 1) := by decide +kernel
theorem dJx4a65c_isEmpty_aae02_1 : decode cJx4a65c_isEmpty_aae02 1 = .ok (.getfield 48, 3) := by decide +kernel
theorem dJx4a65c_isEmpty_aae02_4 : decode cJx4a65c_isEmpty_aae02 4 = .ok (.ifCond .ne 7, 3) := by decide +kernel
theorem dJx4a65c_isEmpty_aae02_7 : decode cJx4a65c_isEmpty_aae02 7 = .ok (.iconst 1, 1) := by decide +kernel
theorem dJx4a65c_isEmpty_aae02_8 : decode cJx4a65c_isEmpty_aae02 8 = .ok (.goto 4, 3) := by decide +kernel
theorem dJx4a65c_isEmpty_aae02_11 : decode cJx4a65c_isEmpty_aae02 11 = .ok (.iconst 0, 1) := by decide +kernel
theorem dJx4a65c_isEmpty_aae02_12 : decode cJx4a65c_isEmpty_aae02 12 = .ok (.ireturn, 1) := by decide +kernel
theorem dJx4a65c_elementData_915e3_0 : decode cJx4a65c_elementData_915e3 0 = .ok (.aload_n 0, 1) := by decide +kernel
theorem dJx4a65c_elementData_915e3_1 : decode cJx4a65c_elementData_915e3 1 = .ok (.getfield 9, 3) := by decide +kernel
theorem dJx4a65c_elementData_915e3_4 : decode cJx4a65c_elementData_915e3 4 = .ok (.iload_n 1, 1) := by decide +kernel
theorem dJx4a65c_elementData_915e3_5 : decode cJx4a65c_elementData_915e3 5 = .ok (.aaload, 1) := by decide +kernel
theorem dJx4a65c_elementData_915e3_6 : decode cJx4a65c_elementData_915e3 6 = .ok (.areturn, 1) := by decide +kernel
theorem dJ3_checkIndex_8e157_0 : decode cJ3_checkIndex_8e157 0 = .ok (.iload_n 0, 1) := by decide +kernel
theorem dJ3_checkIndex_8e157_1 : decode cJ3_checkIndex_8e157 1 = .ok (.ifCond .lt 8, 3) := by decide +kernel
theorem dJ3_checkIndex_8e157_4 : decode cJ3_checkIndex_8e157 4 = .ok (.iload_n 0, 1) := by decide +kernel
theorem dJ3_checkIndex_8e157_5 : decode cJ3_checkIndex_8e157 5 = .ok (.iload_n 1, 1) := by decide +kernel
theorem dJ3_checkIndex_8e157_6 : decode cJ3_checkIndex_8e157 6 = .ok (.if_icmp .lt 10, 3) := by decide +kernel
theorem dJ3_checkIndex_8e157_16 : decode cJ3_checkIndex_8e157 16 = .ok (.iload_n 0, 1) := by decide +kernel
theorem dJ3_checkIndex_8e157_17 : decode cJ3_checkIndex_8e157 17 = .ok (.ireturn, 1) := by decide +kernel
theorem dJ15_checkIndex_7cf53_0 : decode cJ15_checkIndex_7cf53 0 = .ok (.iload_n 0, 1) := by decide +kernel
theorem dJ15_checkIndex_7cf53_1 : decode cJ15_checkIndex_7cf53 1 = .ok (.iload_n 1, 1) := by decide +kernel
theorem dJ15_checkIndex_7cf53_2 : decode cJ15_checkIndex_7cf53 2 = .ok (.aconst_null, 1) := by decide +kernel
theorem dJ15_checkIndex_7cf53_3 : decode cJ15_checkIndex_7cf53 3 = .ok (.invokestatic 105, 3) := by decide +kernel
theorem dJ15_checkIndex_7cf53_6 : decode cJ15_checkIndex_7cf53 6 = .ok (.ireturn, 1) := by decide +kernel
theorem dJx4a65c_get_915e3_0 : decode cJx4a65c_get_915e3 0 = .ok (.iload_n 1, 1) := by decide +kernel
theorem dJx4a65c_get_915e3_1 : decode cJx4a65c_get_915e3 1 = .ok (.aload_n 0, 1) := by decide +kernel
theorem dJx4a65c_get_915e3_2 : decode cJx4a65c_get_915e3 2 = .ok (.getfield 48, 3) := by decide +kernel
theorem dJx4a65c_get_915e3_5 : decode cJx4a65c_get_915e3 5 = .ok (.invokestatic 118, 3) := by decide +kernel
theorem dJx4a65c_get_915e3_8 : decode cJx4a65c_get_915e3 8 = .ok (.pop, 1) := by decide +kernel
theorem dJx4a65c_get_915e3_9 : decode cJx4a65c_get_915e3 9 = .ok (.aload_n 0, 1) := by decide +kernel
theorem dJx4a65c_get_915e3_10 : decode cJx4a65c_get_915e3 10 = .ok (.iload_n 1, 1) := by decide +kernel
theorem dJx4a65c_get_915e3_11 : decode cJx4a65c_get_915e3 11 = .ok (.invokevirtual 123, 3) := by decide +kernel
theorem dJx4a65c_get_915e3_14 : decode cJx4a65c_get_915e3 14 = .ok (.areturn, 1) := by decide +kernel
theorem dJ8_newLength_cabcc_0 : decode cJ8_newLength_cabcc 0 = .ok (.iload_n 0, 1) := by decide +kernel
theorem dJ8_newLength_cabcc_1 : decode cJ8_newLength_cabcc 1 = .ok (.iload_n 1, 1) := by decide +kernel
theorem dJ8_newLength_cabcc_2 : decode cJ8_newLength_cabcc 2 = .ok (.iload_n 2, 1) := by decide +kernel
theorem dJ8_newLength_cabcc_3 : decode cJ8_newLength_cabcc 3 = .ok (.invokestatic 194, 3) := by decide +kernel
theorem dJ8_newLength_cabcc_6 : decode cJ8_newLength_cabcc 6 = .ok (.iadd, 1) := by decide +kernel
theorem dJ8_newLength_cabcc_7 : decode cJ8_newLength_cabcc 7 = .ok (.istore_n 3, 1) := by decide +kernel
theorem dJ8_newLength_cabcc_8 : decode cJ8_newLength_cabcc 8 = .ok (.iconst 0, 1) := by decide +kernel
theorem dJ8_newLength_cabcc_9 : decode cJ8_newLength_cabcc 9 = .ok (.iload_n 3, 1) := by decide +kernel
theorem dJ8_newLength_cabcc_10 : decode cJ8_newLength_cabcc 10 = .ok (.if_icmp .ge 11, 3) := by decide +kernel
theorem dJ8_newLength_cabcc_13 : decode cJ8_newLength_cabcc 13 = .ok (.iload_n 3, 1) := by decide +kernel
theorem dJ8_newLength_cabcc_14 : decode cJ8_newLength_cabcc 14 = .ok (.ldc 200, 2) := by decide +kernel
theorem dJ8_newLength_cabcc_16 : decode cJ8_newLength_cabcc 16 = .ok (.if_icmp .gt 5, 3) := by decide +kernel
theorem dJ8_newLength_cabcc_19 : decode cJ8_newLength_cabcc 19 = .ok (.iload_n 3, 1) := by decide +kernel
theorem dJ8_newLength_cabcc_20 : decode cJ8_newLength_cabcc 20 = .ok (.ireturn, 1) := by decide +kernel
theorem dJ8_newLength_cabcc_21 : decode cJ8_newLength_cabcc 21 = .ok (.iload_n 0, 1) := by decide +kernel
theorem dJ8_newLength_cabcc_22 : decode cJ8_newLength_cabcc 22 = .ok (.iload_n 1, 1) := by decide +kernel
theorem dJ8_newLength_cabcc_23 : decode cJ8_newLength_cabcc 23 = .ok (.invokestatic 201, 3) := by decide +kernel
theorem dJ8_newLength_cabcc_26 : decode cJ8_newLength_cabcc 26 = .ok (.ireturn, 1) := by decide +kernel
theorem dJ7_copyOf_6403c_0 : decode cJ7_copyOf_6403c 0 = .ok (.aload_n 2, 1) := by decide +kernel
theorem dJ7_copyOf_6403c_1 : decode cJ7_copyOf_6403c 1 = .ok (.ldc 110, 2) := by decide +kernel
theorem dJ7_copyOf_6403c_3 : decode cJ7_copyOf_6403c 3 = .ok (.if_acmp .ne 10, 3) := by decide +kernel
theorem dJ7_copyOf_6403c_6 : decode cJ7_copyOf_6403c 6 = .ok (.iload_n 1, 1) := by decide +kernel
theorem dJ7_copyOf_6403c_7 : decode cJ7_copyOf_6403c 7 = .ok (.anewarray 2, 3) := by decide +kernel
theorem dJ7_copyOf_6403c_10 : decode cJ7_copyOf_6403c 10 = .ok (.goto 14, 3) := by decide +kernel
theorem dJ7_copyOf_6403c_24 : decode cJ7_copyOf_6403c 24 = .ok (.astore_n 3, 1) := by decide +kernel
theorem dJ7_copyOf_6403c_25 : decode cJ7_copyOf_6403c 25 = .ok (.aload_n 0, 1) := by decide +kernel
theorem dJ7_copyOf_6403c_26 : decode cJ7_copyOf_6403c 26 = .ok (.iconst 0, 1) := by decide +kernel
theorem dJ7_copyOf_6403c_27 : decode cJ7_copyOf_6403c 27 = .ok (.aload_n 3, 1) := by decide +kernel
theorem dJ7_copyOf_6403c_28 : decode cJ7_copyOf_6403c 28 = .ok (.iconst 0, 1) := by decide +kernel
theorem dJ7_copyOf_6403c_29 : decode cJ7_copyOf_6403c 29 = .ok (.aload_n 0, 1) := by decide +kernel
theorem dJ7_copyOf_6403c_30 : decode cJ7_copyOf_6403c 30 = .ok (.arraylength, 1) := by decide +kernel
theorem dJ7_copyOf_6403c_31 : decode cJ7_copyOf_6403c 31 = .ok (.iload_n 1, 1) := by decide +kernel
theorem dJ7_copyOf_6403c_32 : decode cJ7_copyOf_6403c 32 = .ok (.invokestatic 304, 3) := by decide +kernel
theorem dJ7_copyOf_6403c_35 : decode cJ7_copyOf_6403c 35 = .ok (.invokestatic 150, 3) := by decide +kernel
theorem dJ7_copyOf_6403c_38 : decode cJ7_copyOf_6403c 38 = .ok (.aload_n 3, 1) := by decide +kernel
theorem dJ7_copyOf_6403c_39 : decode cJ7_copyOf_6403c 39 = .ok (.areturn, 1) := by decide +kernel
theorem dJ7_copyOf_1904c_0 : decode cJ7_copyOf_1904c 0 = .ok (.aload_n 0, 1) := by decide +kernel
theorem dJ7_copyOf_1904c_1 : decode cJ7_copyOf_1904c 1 = .ok (.iload_n 1, 1) := by decide +kernel
theorem dJ7_copyOf_1904c_2 : decode cJ7_copyOf_1904c 2 = .ok (.aload_n 0, 1) := by decide +kernel
theorem dJ7_copyOf_1904c_3 : decode cJ7_copyOf_1904c 3 = .ok (.invokevirtual 86, 3) := by decide +kernel
theorem dJ7_copyOf_1904c_6 : decode cJ7_copyOf_1904c 6 = .ok (.invokestatic 300, 3) := by decide +kernel
theorem dJ7_copyOf_1904c_9 : decode cJ7_copyOf_1904c 9 = .ok (.areturn, 1) := by decide +kernel
theorem dJx4a65c_grow_92f84_0 : decode cJx4a65c_grow_92f84 0 = .ok (.aload_n 0, 1) := by decide +kernel
theorem dJx4a65c_grow_92f84_1 : decode cJx4a65c_grow_92f84 1 = .ok (.getfield 9, 3) := by decide +kernel
theorem dJx4a65c_grow_92f84_4 : decode cJx4a65c_grow_92f84 4 = .ok (.arraylength, 1) := by decide +kernel
theorem dJx4a65c_grow_92f84_5 : decode cJx4a65c_grow_92f84 5 = .ok (.istore_n 2, 1) := by decide +kernel
theorem dJx4a65c_grow_92f84_6 : decode cJx4a65c_grow_92f84 6 = .ok (.iload_n 2, 1) := by decide +kernel
theorem dJx4a65c_grow_92f84_7 : decode cJx4a65c_grow_92f84 7 = .ok (.ifCond .gt 13, 3) := by decide +kernel
theorem dJx4a65c_grow_92f84_10 : decode cJx4a65c_grow_92f84 10 = .ok (.aload_n 0, 1) := by decide +kernel
theorem dJx4a65c_grow_92f84_11 : decode cJx4a65c_grow_92f84 11 = .ok (.getfield 9, 3) := by decide +kernel
theorem dJx4a65c_grow_92f84_14 : decode cJx4a65c_grow_92f84 14 = .ok (.getstatic 39, 3) := by decide +kernel
theorem dJx4a65c_grow_92f84_17 : decode cJx4a65c_grow_92f84 17 = .ok (.if_acmp .eq 28, 3) := by decide +kernel
theorem dJx4a65c_grow_92f84_20 : decode cJx4a65c_grow_92f84 20 = .ok (.iload_n 2, 1) := by decide +kernel
theorem dJx4a65c_grow_92f84_21 : decode cJx4a65c_grow_92f84 21 = .ok (.iload_n 1, 1) := by decide +kernel
theorem dJx4a65c_grow_92f84_22 : decode cJx4a65c_grow_92f84 22 = .ok (.iload_n 2, 1) := by decide +kernel
theorem dJx4a65c_grow_92f84_23 : decode cJx4a65c_grow_92f84 23 = .ok (.isub, 1) := by decide +kernel
theorem dJx4a65c_grow_92f84_24 : decode cJx4a65c_grow_92f84 24 = .ok (.iload_n 2, 1) := by decide +kernel
theorem dJx4a65c_grow_92f84_25 : decode cJx4a65c_grow_92f84 25 = .ok (.iconst 1, 1) := by decide +kernel
theorem dJx4a65c_grow_92f84_26 : decode cJx4a65c_grow_92f84 26 = .ok (.ishr, 1) := by decide +kernel
theorem dJx4a65c_grow_92f84_27 : decode cJx4a65c_grow_92f84 27 = .ok (.invokestatic 73, 3) := by decide +kernel
theorem dJx4a65c_grow_92f84_30 : decode cJx4a65c_grow_92f84 30 = .ok (.istore_n 3, 1) := by decide +kernel
theorem dJx4a65c_grow_92f84_31 : decode cJx4a65c_grow_92f84 31 = .ok (.aload_n 0, 1) := by decide +kernel
theorem dJx4a65c_grow_92f84_32 : decode cJx4a65c_grow_92f84 32 = .ok (.aload_n 0, 1) := by decide +kernel
theorem dJx4a65c_grow_92f84_33 : decode cJx4a65c_grow_92f84 33 = .ok (.getfield 9, 3) := by decide +kernel
theorem dJx4a65c_grow_92f84_36 : decode cJx4a65c_grow_92f84 36 = .ok (.iload_n 3, 1) := by decide +kernel
theorem dJx4a65c_grow_92f84_37 : decode cJx4a65c_grow_92f84 37 = .ok (.invokestatic 66, 3) := by decide +kernel
theorem dJx4a65c_grow_92f84_40 : decode cJx4a65c_grow_92f84 40 = .ok (.dup_x1, 1) := by decide +kernel
theorem dJx4a65c_grow_92f84_41 : decode cJx4a65c_grow_92f84 41 = .ok (.putfield 9, 3) := by decide +kernel
theorem dJx4a65c_grow_92f84_44 : decode cJx4a65c_grow_92f84 44 = .ok (.areturn, 1) := by decide +kernel
theorem dJx4a65c_grow_92f84_45 : decode cJx4a65c_grow_92f84 45 = .ok (.aload_n 0, 1) := by decide +kernel
theorem dJx4a65c_grow_92f84_46 : decode cJx4a65c_grow_92f84 46 = .ok (.bipush 10, 2) := by decide +kernel
theorem dJx4a65c_grow_92f84_48 : decode cJx4a65c_grow_92f84 48 = .ok (.iload_n 1, 1) := by decide +kernel
theorem dJx4a65c_grow_92f84_49 : decode cJx4a65c_grow_92f84 49 = .ok (.invokestatic 79, 3) := by decide +kernel
theorem dJx4a65c_grow_92f84_52 : decode cJx4a65c_grow_92f84 52 = .ok (.anewarray 7, 3) := by decide +kernel
theorem dJx4a65c_grow_92f84_55 : decode cJx4a65c_grow_92f84 55 = .ok (.dup_x1, 1) := by decide +kernel
theorem dJx4a65c_grow_92f84_56 : decode cJx4a65c_grow_92f84 56 = .ok (.putfield 9, 3) := by decide +kernel
theorem dJx4a65c_grow_92f84_59 : decode cJx4a65c_grow_92f84 59 = .ok (.areturn, 1) := by decide +kernel
theorem dJx4a65c_grow_d5877_0 : decode cJx4a65c_grow_d5877 0 = .ok (.aload_n 0, 1) := by decide +kernel
theorem dJx4a65c_grow_d5877_1 : decode cJx4a65c_grow_d5877 1 = .ok (.aload_n 0, 1) := by decide +kernel
theorem dJx4a65c_grow_d5877_2 : decode cJx4a65c_grow_d5877 2 = .ok (.getfield 48, 3) := by decide +kernel
theorem dJx4a65c_grow_d5877_5 : decode cJx4a65c_grow_d5877 5 = .ok (.iconst 1, 1) := by decide +kernel
theorem dJx4a65c_grow_d5877_6 : decode cJx4a65c_grow_d5877 6 = .ok (.iadd, 1) := by decide +kernel
theorem dJx4a65c_grow_d5877_7 : decode cJx4a65c_grow_d5877 7 = .ok (.invokevirtual 69, 3) := by decide +kernel
theorem dJx4a65c_grow_d5877_10 : decode cJx4a65c_grow_d5877 10 = .ok (.areturn, 1) := by decide +kernel
theorem dJx4a65c_add_72be8_0 : decode cJx4a65c_add_72be8 0 = .ok (.iload_n 3, 1) := by decide +kernel
theorem dJx4a65c_add_72be8_1 : decode cJx4a65c_add_72be8 1 = .ok (.aload_n 2, 1) := by decide +kernel
theorem dJx4a65c_add_72be8_2 : decode cJx4a65c_add_72be8 2 = .ok (.arraylength, 1) := by decide +kernel
theorem dJx4a65c_add_72be8_3 : decode cJx4a65c_add_72be8 3 = .ok (.if_icmp .ne 8, 3) := by decide +kernel
theorem dJx4a65c_add_72be8_6 : decode cJx4a65c_add_72be8 6 = .ok (.aload_n 0, 1) := by decide +kernel
theorem dJx4a65c_add_72be8_7 : decode cJx4a65c_add_72be8 7 = .ok (.invokevirtual 129, 3) := by decide +kernel
theorem dJx4a65c_add_72be8_10 : decode cJx4a65c_add_72be8 10 = .ok (.astore_n 2, 1) := by decide +kernel
theorem dJx4a65c_add_72be8_11 : decode cJx4a65c_add_72be8 11 = .ok (.aload_n 2, 1) := by decide +kernel
theorem dJx4a65c_add_72be8_12 : decode cJx4a65c_add_72be8 12 = .ok (.iload_n 3, 1) := by decide +kernel
theorem dJx4a65c_add_72be8_13 : decode cJx4a65c_add_72be8 13 = .ok (.aload_n 1, 1) := by decide +kernel
theorem dJx4a65c_add_72be8_14 : decode cJx4a65c_add_72be8 14 = .ok (.aastore, 1) := by decide +kernel
theorem dJx4a65c_add_72be8_15 : decode cJx4a65c_add_72be8 15 = .ok (.aload_n 0, 1) := by decide +kernel
theorem dJx4a65c_add_72be8_16 : decode cJx4a65c_add_72be8 16 = .ok (.iload_n 3, 1) := by decide +kernel
theorem dJx4a65c_add_72be8_17 : decode cJx4a65c_add_72be8 17 = .ok (.iconst 1, 1) := by decide +kernel
theorem dJx4a65c_add_72be8_18 : decode cJx4a65c_add_72be8 18 = .ok (.iadd, 1) := by decide +kernel
theorem dJx4a65c_add_72be8_19 : decode cJx4a65c_add_72be8 19 = .ok (.putfield 48, 3) := by decide +kernel
theorem dJx4a65c_add_72be8_22 : decode cJx4a65c_add_72be8 22 = .ok (.return_, 1) := by decide +kernel
theorem dJx4a65c_add_9ea2d_0 : decode cJx4a65c_add_9ea2d 0 = .ok (.aload_n 0, 1) := by decide +kernel
theorem dJx4a65c_add_9ea2d_1 : decode cJx4a65c_add_9ea2d 1 = .ok (.dup, 1) := by decide +kernel
theorem dJx4a65c_add_9ea2d_2 : decode cJx4a65c_add_9ea2d 2 = .ok (.getfield 63, 3) := by decide +kernel
theorem dJx4a65c_add_9ea2d_5 : decode cJx4a65c_add_9ea2d 5 = .ok (.iconst 1, 1) := by decide +kernel
theorem dJx4a65c_add_9ea2d_6 : decode cJx4a65c_add_9ea2d 6 = .ok (.iadd, 1) := by decide +kernel
theorem dJx4a65c_add_9ea2d_7 : decode cJx4a65c_add_9ea2d 7 = .ok (.putfield 63, 3) := by decide +kernel
theorem dJx4a65c_add_9ea2d_10 : decode cJx4a65c_add_9ea2d 10 = .ok (.aload_n 0, 1) := by decide +kernel
theorem dJx4a65c_add_9ea2d_11 : decode cJx4a65c_add_9ea2d 11 = .ok (.aload_n 1, 1) := by decide +kernel
theorem dJx4a65c_add_9ea2d_12 : decode cJx4a65c_add_9ea2d 12 = .ok (.aload_n 0, 1) := by decide +kernel
theorem dJx4a65c_add_9ea2d_13 : decode cJx4a65c_add_9ea2d 13 = .ok (.getfield 9, 3) := by decide +kernel
theorem dJx4a65c_add_9ea2d_16 : decode cJx4a65c_add_9ea2d 16 = .ok (.aload_n 0, 1) := by decide +kernel
theorem dJx4a65c_add_9ea2d_17 : decode cJx4a65c_add_9ea2d 17 = .ok (.getfield 48, 3) := by decide +kernel
theorem dJx4a65c_add_9ea2d_20 : decode cJx4a65c_add_9ea2d 20 = .ok (.invokevirtual 131, 3) := by decide +kernel
theorem dJx4a65c_add_9ea2d_23 : decode cJx4a65c_add_9ea2d 23 = .ok (.iconst 1, 1) := by decide +kernel
theorem dJx4a65c_add_9ea2d_24 : decode cJx4a65c_add_9ea2d 24 = .ok (.ireturn, 1) := by decide +kernel
theorem dJ7_fill_53178_0 : decode cJ7_fill_53178 0 = .ok (.iconst 0, 1) := by decide +kernel
theorem dJ7_fill_53178_1 : decode cJ7_fill_53178 1 = .ok (.istore_n 2, 1) := by decide +kernel
theorem dJ7_fill_53178_2 : decode cJ7_fill_53178 2 = .ok (.aload_n 0, 1) := by decide +kernel
theorem dJ7_fill_53178_3 : decode cJ7_fill_53178 3 = .ok (.arraylength, 1) := by decide +kernel
theorem dJ7_fill_53178_4 : decode cJ7_fill_53178 4 = .ok (.istore_n 3, 1) := by decide +kernel
theorem dJ7_fill_53178_5 : decode cJ7_fill_53178 5 = .ok (.iload_n 2, 1) := by decide +kernel
theorem dJ7_fill_53178_6 : decode cJ7_fill_53178 6 = .ok (.iload_n 3, 1) := by decide +kernel
theorem dJ7_fill_53178_7 : decode cJ7_fill_53178 7 = .ok (.if_icmp .ge 13, 3) := by decide +kernel
theorem dJ7_fill_53178_10 : decode cJ7_fill_53178 10 = .ok (.aload_n 0, 1) := by decide +kernel
theorem dJ7_fill_53178_11 : decode cJ7_fill_53178 11 = .ok (.iload_n 2, 1) := by decide +kernel
theorem dJ7_fill_53178_12 : decode cJ7_fill_53178 12 = .ok (.iload_n 1, 1) := by decide +kernel
theorem dJ7_fill_53178_13 : decode cJ7_fill_53178 13 = .ok (.iastore, 1) := by decide +kernel
theorem dJ7_fill_53178_14 : decode cJ7_fill_53178 14 = .ok (.iinc 2 1, 3) := by decide +kernel
theorem dJ7_fill_53178_17 : decode cJ7_fill_53178 17 = .ok (.goto (-12), 3) := by decide +kernel
theorem dJ7_fill_53178_20 : decode cJ7_fill_53178 20 = .ok (.return_, 1) := by decide +kernel
section BL
variable {p : Program} {l : Launch} {e : Env} {s : State} {m : MethodId} {args : Array Value} {below : List Frame} {meth : Method} {c : Code} {w : Wd} {S : St}
theorem bJxa1e45_init_da8c8_0 (B : Bd p s m args meth c cJxa1e45_init_da8c8 1 (wsOf yJxa1e45_init_da8c8 cJxa1e45_init_da8c8 1 none) RJxa1e45 w none "<init>") {v0 : Nat} {post : St → Prop}  (hq : post S) : K p l e rJxa1e45_init_da8c8 s m args below meth c 1 w 0 0 (MQ below (va_Qv post (fun S' t => Hd w S' t.heap) (wA w)) args s 0 0 (wA w)) S 0 [(0, .ref v0)] [] := by
  refine k_aload_n B 0 rfl rfl dJxa1e45_init_da8c8_0 ?_
  refine k_objInit B (in_of qlRJxa1e45_1) (in_of qi_obj) (in_of qc_obj) (Nat.le_of_ble_eq_true rfl) (Nat.le_of_ble_eq_true rfl) dJxa1e45_init_da8c8_1 ?_
  exact ret_V B rfl dJxa1e45_init_da8c8_4 (hq)
theorem bJxc12de_init_da8c8_0 (B : Bd p s m args meth c cJxc12de_init_da8c8 1 (wsOf yJxc12de_init_da8c8 cJxc12de_init_da8c8 1 none) RJxc12de w none "<init>") {v0 : Nat} {post : St → Prop} {Q : State → Prop} (hc : ConV l yJxa1e45_init_da8c8 (wsOf yJxa1e45_init_da8c8 cJxa1e45_init_da8c8 1 none) rJxa1e45_init_da8c8 w S [.ref v0] post) (kk : ∀ (S' : St), post S' → K p l e rJxc12de_init_da8c8 s m args below meth c 1 w 0 0 Q S' 4 [(0, .ref v0)] []) : K p l e rJxc12de_init_da8c8 s m args below meth c 1 w 0 0 Q S 0 [(0, .ref v0)] [] := by
  refine k_aload_n B 0 rfl rfl dJxc12de_init_da8c8_0 ?_
  refine callC_V (st := []) B [] (hc) (cwI 0 B.1.2.2.2.2 (gB qcJxa1e45_init_da8c8) rfl rfl rfl (B.1.2.2.2.2 _ (in_of qzRJxa1e45)) (B.1.2.2.2.2 _ (in_of qlRJxc12de_1)) (B.1.2.2.2.2 _ (in_of qiJxa1e45_init_da8c8)) rfl (by decide +kernel) ⟨Nat.le_of_ble_eq_true rfl, Nat.le_of_ble_eq_true rfl⟩) rfl (Nat.le_of_ble_eq_true rfl) rfl dJxc12de_init_da8c8_1 ⟨Nat.le_of_ble_eq_true rfl, Nat.le_of_ble_eq_true rfl⟩ (fun S' hp => ?_)
  exact kk S' hp
theorem bJxc12de_init_da8c8_4 (B : Bd p s m args meth c cJxc12de_init_da8c8 1 (wsOf yJxc12de_init_da8c8 cJxc12de_init_da8c8 1 none) RJxc12de w none "<init>") {v0 : Nat} {post : St → Prop} (h1 : kd S v0 = 1) (hq : post (sI S 0 v0 0)) : K p l e rJxc12de_init_da8c8 s m args below meth c 1 w 0 0 (MQ below (va_Qv post (fun S' t => Hd w S' t.heap) (wA w)) args s 0 0 (wA w)) S 4 [(0, .ref v0)] [] := by
  refine k_aload_n B 0 rfl rfl dJxc12de_init_da8c8_4 ?_
  refine k_iconst (v := 0) B (by decide) dJxc12de_init_da8c8_5 ?_
  refine k_putI (f := 0) B 0 0 rfl (by decide) rfl (by decide) rfl rfl (fun w h => in_of (uw_0 w h)) (in_of qfRJxc12de_7) tyJx4a65c tyJx4a65c_ok nmJx4a65c rfl (tyJx4a65c_ok 0 (by decide)) dJxc12de_init_da8c8_6 h1 ?_
  exact ret_V B rfl dJxc12de_init_da8c8_9 (hq)
theorem bJx4a65c_init_da8c8_0 (B : Bd p s m args meth c cJx4a65c_init_da8c8 1 (wsOf yJx4a65c_init_da8c8 cJx4a65c_init_da8c8 1 none) RJx4a65c w none "<init>") {v0 : Nat} {post : St → Prop} {Q : State → Prop} (hc : ConV l yJxc12de_init_da8c8 (wsOf yJxc12de_init_da8c8 cJxc12de_init_da8c8 1 none) rJxc12de_init_da8c8 w S [.ref v0] post) (kk : ∀ (S' : St), post S' → K p l e rJx4a65c_init_da8c8 s m args below meth c 1 w 0 0 Q S' 4 [(0, .ref v0)] []) : K p l e rJx4a65c_init_da8c8 s m args below meth c 1 w 0 0 Q S 0 [(0, .ref v0)] [] := by
  refine k_aload_n B 0 rfl rfl dJx4a65c_init_da8c8_0 ?_
  refine callC_V (st := []) B [] (hc) (cwI 0 B.1.2.2.2.2 (gB qcJxc12de_init_da8c8) rfl rfl rfl (B.1.2.2.2.2 _ (in_of qzRJxc12de)) (B.1.2.2.2.2 _ (in_of qlRJx4a65c_1)) (B.1.2.2.2.2 _ (in_of qiJxc12de_init_da8c8)) rfl (by decide +kernel) ⟨Nat.le_of_ble_eq_true rfl, Nat.le_of_ble_eq_true rfl⟩) rfl (Nat.le_of_ble_eq_true rfl) rfl dJx4a65c_init_da8c8_1 ⟨Nat.le_of_ble_eq_true rfl, Nat.le_of_ble_eq_true rfl⟩ (fun S' hp => ?_)
  exact kk S' hp
theorem bJx4a65c_init_da8c8_4 (B : Bd p s m args meth c cJx4a65c_init_da8c8 1 (wsOf yJx4a65c_init_da8c8 cJx4a65c_init_da8c8 1 none) RJx4a65c w none "<init>") {v0 : Nat} {post : St → Prop} (h1 : kd S v0 = 1) (hq : post (sP S 1 v0 (some (wE w)))) : K p l e rJx4a65c_init_da8c8 s m args below meth c 1 w 0 0 (MQ below (va_Qv post (fun S' t => Hd w S' t.heap) (wA w)) args s 0 0 (wA w)) S 4 [(0, .ref v0)] [] := by
  refine k_aload_n B 0 rfl rfl dJx4a65c_init_da8c8_4 ?_
  refine k_getsE B (in_of qfRJx4a65c_39) dJx4a65c_init_da8c8_5 ?_
  refine k_putP (f := 1) (v := some (wE w)) B 0 1 rfl (by decide) rfl (by decide) rfl rfl (fun w h => in_of (uw_0 w h)) (in_of qfRJx4a65c_9) tyJx4a65c tyJx4a65c_ok nmJx4a65c rfl (tyJx4a65c_ok 1 (by decide)) rfl rfl dJx4a65c_init_da8c8_8 h1 ?_
  exact ret_V B rfl dJx4a65c_init_da8c8_11 (hq)
theorem bJx4a65c_size_8abf5_0 (B : Bd p s m args meth c cJx4a65c_size_8abf5 1 (wsOf yJx4a65c_size_8abf5 cJx4a65c_size_8abf5 1 (some .int)) RJx4a65c w (some .int) "size") {v0 : Nat} {post : Int32 → St → Prop} (h1 : kd S v0 = 1) (hq : post (gI S 2 v0) S) : K p l e rJx4a65c_size_8abf5 s m args below meth c 1 w 0 0 (MQ below (va_Qi post (fun S' t => Hd w S' t.heap) (wA w)) args s 0 0 (wA w)) S 0 [(0, .ref v0)] [] := by
  refine k_aload_n B 0 rfl rfl dJx4a65c_size_8abf5_0 ?_
  refine k_getI (f := 2) (v := gI S 2 v0) B 0 2 rfl (by decide) rfl (by decide) rfl rfl (fun w h => in_of (uw_0 w h)) (in_of qfRJx4a65c_48) dJx4a65c_size_8abf5_1 h1 rfl ?_
  exact ret_I B rfl dJx4a65c_size_8abf5_4 (hq)
theorem bJx4a65c_isEmpty_aae02_0 (B : Bd p s m args meth c cJx4a65c_isEmpty_aae02 1 (wsOf yJx4a65c_isEmpty_aae02 cJx4a65c_isEmpty_aae02 1 (some .boolean)) RJx4a65c w (some .boolean) "isEmpty") {v0 : Nat} {Q : State → Prop} (h1 : kd S v0 = 1) (kt : ¬ (gI S 2 v0) = 0 → K p l e rJx4a65c_isEmpty_aae02 s m args below meth c 1 w 0 0 Q S 11 [] []) (kf : (gI S 2 v0) = 0 → K p l e rJx4a65c_isEmpty_aae02 s m args below meth c 1 w 0 0 Q S 7 [] []) : K p l e rJx4a65c_isEmpty_aae02 s m args below meth c 1 w 0 0 Q S 0 [(0, .ref v0)] [] := by
  refine k_aload_n B 0 rfl rfl dJx4a65c_isEmpty_aae02_0 ?_
  refine k_getI (f := 2) (v := gI S 2 v0) B 0 2 rfl (by decide) rfl (by decide) rfl rfl (fun w h => in_of (uw_0 w h)) (in_of qfRJx4a65c_48) dJx4a65c_isEmpty_aae02_1 h1 rfl ?_
  refine k_if_ne (tgt := 11) B dJx4a65c_isEmpty_aae02_4 (by decide) (fun c => ?_) (fun c => ?_)
  · refine k_sub [] rfl ?_
    exact kt c
  · refine k_sub [] rfl ?_
    exact kf c
theorem bJx4a65c_isEmpty_aae02_7 (B : Bd p s m args meth c cJx4a65c_isEmpty_aae02 1 (wsOf yJx4a65c_isEmpty_aae02 cJx4a65c_isEmpty_aae02 1 (some .boolean)) RJx4a65c w (some .boolean) "isEmpty") {Q : State → Prop}  (kk : K p l e rJx4a65c_isEmpty_aae02 s m args below meth c 1 w 0 0 Q S 12 [] [.int 1]) : K p l e rJx4a65c_isEmpty_aae02 s m args below meth c 1 w 0 0 Q S 7 [] [] := by
  refine k_iconst (v := 1) B (by decide) dJx4a65c_isEmpty_aae02_7 ?_
  refine k_goto (tgt := 12) B dJx4a65c_isEmpty_aae02_8 (by decide) ?_
  exact kk
theorem bJx4a65c_isEmpty_aae02_11 (B : Bd p s m args meth c cJx4a65c_isEmpty_aae02 1 (wsOf yJx4a65c_isEmpty_aae02 cJx4a65c_isEmpty_aae02 1 (some .boolean)) RJx4a65c w (some .boolean) "isEmpty") {Q : State → Prop}  (kk : K p l e rJx4a65c_isEmpty_aae02 s m args below meth c 1 w 0 0 Q S 12 [] [.int 0]) : K p l e rJx4a65c_isEmpty_aae02 s m args below meth c 1 w 0 0 Q S 11 [] [] := by
  refine k_iconst (v := 0) B (by decide) dJx4a65c_isEmpty_aae02_11 ?_
  exact kk
theorem bJx4a65c_isEmpty_aae02_12 (B : Bd p s m args meth c cJx4a65c_isEmpty_aae02 1 (wsOf yJx4a65c_isEmpty_aae02 cJx4a65c_isEmpty_aae02 1 (some .boolean)) RJx4a65c w (some .boolean) "isEmpty") {t0 : Int32} {post : Int32 → St → Prop}  (hv : t0 = 0 ∨ t0 = 1) (hq : post t0 S) : K p l e rJx4a65c_isEmpty_aae02 s m args below meth c 1 w 0 0 (MQ below (va_Qi post (fun S' t => Hd w S' t.heap) (wA w)) args s 0 0 (wA w)) S 12 [] [.int t0] := by
  exact ret_Z B rfl dJx4a65c_isEmpty_aae02_12 (hv) (hq)
theorem bJx4a65c_elementData_915e3_0 (B : Bd p s m args meth c cJx4a65c_elementData_915e3 2 (wsOf yJx4a65c_elementData_915e3 cJx4a65c_elementData_915e3 2 (some (.object "java/lang/Object"))) RJx4a65c w (some (.object "java/lang/Object")) "elementData") {v0 : Nat} {v1 : Int32} {x1 : Nat} {x2 : Nat} {post : Nat → St → Prop} (h1 : kd S v0 = 1) (h2 : gP S 1 v0 = some x1) (h3 : kd S x1 = 23) (h4 : vp_in v1 (ln S x1)) (h5 : (rP S x1) v1.toNatClampNeg = some x2) (hq : post x2 S) : K p l e rJx4a65c_elementData_915e3 s m args below meth c 2 w 0 0 (MQ below (va_Qr (fun _ : St => True) (fun S' a t => Hd w S' t.heap ∧ post a S') (wA w)) args s 0 0 (wA w)) S 0 [(0, .ref v0), (1, .int v1)] [] := by
  refine k_aload_n B 0 rfl rfl dJx4a65c_elementData_915e3_0 ?_
  refine k_getP (f := 1) (r := gP S 1 v0) B 0 1 rfl (by decide) rfl (by decide) rfl rfl (fun w h => in_of (uw_0 w h)) (in_of qfRJx4a65c_9) dJx4a65c_elementData_915e3_1 h1 rfl ?_
  rw [h2]; change K _ _ _ _ _ _ _ _ _ _ _ _ _ _ _ _ _ _ (.ref x1 :: _)
  refine k_iload_n B 1 rfl rfl dJx4a65c_elementData_915e3_4 ?_
  refine k_oald (v := (rP S x1) v1.toNatClampNeg) B dJx4a65c_elementData_915e3_5 h3 h4 rfl ?_
  rw [h5]; change K _ _ _ _ _ _ _ _ _ _ _ _ _ _ _ _ _ _ (.ref x2 :: _)
  exact ret_R B rfl (Or.inl ⟨_, rfl⟩) dJx4a65c_elementData_915e3_6 (hq)
theorem bJ3_checkIndex_8e157_0 (B : Bd p s m args meth c cJ3_checkIndex_8e157 3 (wsOf yJ3_checkIndex_8e157 cJ3_checkIndex_8e157 3 (some .int)) RJ3 w (some .int) "checkIndex") {v0 : Int32} {v1 : Int32} {Q : State → Prop}  (kt : v0 < 0 → K p l e rJ3_checkIndex_8e157 s m args below meth c 3 w 0 0 Q S 9 [] []) (kf : ¬ v0 < 0 → K p l e rJ3_checkIndex_8e157 s m args below meth c 3 w 0 0 Q S 4 [(0, .int v0), (1, .int v1)] []) : K p l e rJ3_checkIndex_8e157 s m args below meth c 3 w 0 0 Q S 0 [(0, .int v0), (1, .int v1), (2, va_rf none)] [] := by
  refine k_iload_n B 0 rfl rfl dJ3_checkIndex_8e157_0 ?_
  refine k_if_lt (tgt := 9) B dJ3_checkIndex_8e157_1 (by decide) (fun c => ?_) (fun c => ?_)
  · refine k_sub [] rfl ?_
    exact kt c
  · refine k_sub [0, 1] rfl ?_
    exact kf c
theorem bJ3_checkIndex_8e157_4 (B : Bd p s m args meth c cJ3_checkIndex_8e157 3 (wsOf yJ3_checkIndex_8e157 cJ3_checkIndex_8e157 3 (some .int)) RJ3 w (some .int) "checkIndex") {v0 : Int32} {v1 : Int32} {Q : State → Prop}  (kt : v0 < v1 → K p l e rJ3_checkIndex_8e157 s m args below meth c 3 w 0 0 Q S 16 [(0, .int v0)] []) (kf : ¬ v0 < v1 → K p l e rJ3_checkIndex_8e157 s m args below meth c 3 w 0 0 Q S 9 [] []) : K p l e rJ3_checkIndex_8e157 s m args below meth c 3 w 0 0 Q S 4 [(0, .int v0), (1, .int v1)] [] := by
  refine k_iload_n B 0 rfl rfl dJ3_checkIndex_8e157_4 ?_
  refine k_iload_n B 1 rfl rfl dJ3_checkIndex_8e157_5 ?_
  refine k_icmp_lt (tgt := 16) B dJ3_checkIndex_8e157_6 (by decide) (fun c => ?_) (fun c => ?_)
  · refine k_sub [0] rfl ?_
    exact kt c
  · refine k_sub [] rfl ?_
    exact kf c
theorem bJ3_checkIndex_8e157_16 (B : Bd p s m args meth c cJ3_checkIndex_8e157 3 (wsOf yJ3_checkIndex_8e157 cJ3_checkIndex_8e157 3 (some .int)) RJ3 w (some .int) "checkIndex") {v0 : Int32} {post : Int32 → St → Prop}  (hq : post v0 S) : K p l e rJ3_checkIndex_8e157 s m args below meth c 3 w 0 0 (MQ below (va_Qi post (fun S' t => Hd w S' t.heap) (wA w)) args s 0 0 (wA w)) S 16 [(0, .int v0)] [] := by
  refine k_iload_n B 0 rfl rfl dJ3_checkIndex_8e157_16 ?_
  exact ret_I B rfl dJ3_checkIndex_8e157_17 (hq)
theorem bJ15_checkIndex_7cf53_0 (B : Bd p s m args meth c cJ15_checkIndex_7cf53 2 (wsOf yJ15_checkIndex_7cf53 cJ15_checkIndex_7cf53 2 (some .int)) RJ15 w (some .int) "checkIndex") {v0 : Int32} {v1 : Int32} {post : Int32 → St → Prop} {Q : State → Prop} (hc : ConI l yJ3_checkIndex_8e157 (wsOf yJ3_checkIndex_8e157 cJ3_checkIndex_8e157 3 (some .int)) rJ3_checkIndex_8e157 w S [.int v0, .int v1, va_rf none] post) (kk : ∀ (r : Int32) (S' : St), post r S' → K p l e rJ15_checkIndex_7cf53 s m args below meth c 2 w 0 0 Q S' 6 [] [.int r]) : K p l e rJ15_checkIndex_7cf53 s m args below meth c 2 w 0 0 Q S 0 [(0, .int v0), (1, .int v1)] [] := by
  refine k_iload_n B 0 rfl rfl dJ15_checkIndex_7cf53_0 ?_
  refine k_iload_n B 1 rfl rfl dJ15_checkIndex_7cf53_1 ?_
  refine k_null B dJ15_checkIndex_7cf53_2 ?_
  refine callS_I (st := []) B [.int v0, .int v1, va_rf none] (hc) (va_cwS 3 B.1.2.2.2.2 (gS qlRJ15_105 qsJ3_checkIndex_8e157 qzRJ3 qcJ3_checkIndex_8e157) rfl rfl rfl (by decide +kernel) ⟨Nat.le_of_ble_eq_true rfl, Nat.le_of_ble_eq_true rfl⟩) rfl (Nat.le_of_ble_eq_true rfl) rfl dJ15_checkIndex_7cf53_3 ⟨Nat.le_of_ble_eq_true rfl, Nat.le_of_ble_eq_true rfl⟩ (fun r S' hp => ?_)
  refine k_sub [] rfl ?_
  exact kk r S' hp
theorem bJ15_checkIndex_7cf53_6 (B : Bd p s m args meth c cJ15_checkIndex_7cf53 2 (wsOf yJ15_checkIndex_7cf53 cJ15_checkIndex_7cf53 2 (some .int)) RJ15 w (some .int) "checkIndex") {t0 : Int32} {post : Int32 → St → Prop}  (hq : post t0 S) : K p l e rJ15_checkIndex_7cf53 s m args below meth c 2 w 0 0 (MQ below (va_Qi post (fun S' t => Hd w S' t.heap) (wA w)) args s 0 0 (wA w)) S 6 [] [.int t0] := by
  exact ret_I B rfl dJ15_checkIndex_7cf53_6 (hq)
theorem bJx4a65c_get_915e3_0 (B : Bd p s m args meth c cJx4a65c_get_915e3 2 (wsOf yJx4a65c_get_915e3 cJx4a65c_get_915e3 2 (some (.object "java/lang/Object"))) RJx4a65c w (some (.object "java/lang/Object")) "get") {v0 : Nat} {v1 : Int32} {post : Int32 → St → Prop} {Q : State → Prop} (h1 : kd S v0 = 1) (hc : ConI l yJ15_checkIndex_7cf53 (wsOf yJ15_checkIndex_7cf53 cJ15_checkIndex_7cf53 2 (some .int)) rJ15_checkIndex_7cf53 w S [.int v1, .int (gI S 2 v0)] post) (kk : ∀ (r : Int32) (S' : St), post r S' → K p l e rJx4a65c_get_915e3 s m args below meth c 2 w 0 0 Q S' 8 [(0, .ref v0), (1, .int v1)] [.int r]) : K p l e rJx4a65c_get_915e3 s m args below meth c 2 w 0 0 Q S 0 [(0, .ref v0), (1, .int v1)] [] := by
  refine k_iload_n B 1 rfl rfl dJx4a65c_get_915e3_0 ?_
  refine k_aload_n B 0 rfl rfl dJx4a65c_get_915e3_1 ?_
  refine k_getI (f := 2) (v := gI S 2 v0) B 0 2 rfl (by decide) rfl (by decide) rfl rfl (fun w h => in_of (uw_0 w h)) (in_of qfRJx4a65c_48) dJx4a65c_get_915e3_2 h1 rfl ?_
  refine callS_I (st := []) B [.int v1, .int (gI S 2 v0)] (hc) (va_cwS 2 B.1.2.2.2.2 (gS qlRJx4a65c_118 qsJ15_checkIndex_7cf53 qzRJ15 qcJ15_checkIndex_7cf53) rfl rfl rfl (by decide +kernel) ⟨Nat.le_of_ble_eq_true rfl, Nat.le_of_ble_eq_true rfl⟩) rfl (Nat.le_of_ble_eq_true rfl) rfl dJx4a65c_get_915e3_5 ⟨Nat.le_of_ble_eq_true rfl, Nat.le_of_ble_eq_true rfl⟩ (fun r S' hp => ?_)
  exact kk r S' hp
theorem bJx4a65c_get_915e3_8 (B : Bd p s m args meth c cJx4a65c_get_915e3 2 (wsOf yJx4a65c_get_915e3 cJx4a65c_get_915e3 2 (some (.object "java/lang/Object"))) RJx4a65c w (some (.object "java/lang/Object")) "get") {v0 : Nat} {v1 : Int32} {t0 : Int32} {post : Nat → St → Prop} {Q : State → Prop} (hc : ConR l yJx4a65c_elementData_915e3 (wsOf yJx4a65c_elementData_915e3 cJx4a65c_elementData_915e3 2 (some (.object "java/lang/Object"))) rJx4a65c_elementData_915e3 w S [.ref v0, .int v1] post) (h1 : kd S v0 = 1) (kk : ∀ (r : Nat) (S' : St), post r S' → K p l e rJx4a65c_get_915e3 s m args below meth c 2 w 0 0 Q S' 14 [] [.ref r]) : K p l e rJx4a65c_get_915e3 s m args below meth c 2 w 0 0 Q S 8 [(0, .ref v0), (1, .int v1)] [.int t0] := by
  refine k_pop B rfl dJx4a65c_get_915e3_8 ?_
  refine k_aload_n B 0 rfl rfl dJx4a65c_get_915e3_9 ?_
  refine k_iload_n B 1 rfl rfl dJx4a65c_get_915e3_10 ?_
  refine callV_R (st := []) B [.int v1] (hc) (cwV 1 B.1.2.2.2.2 (gV qlRJx4a65c_123 qiJx4a65c_elementData_915e3 qeJx4a65c_elementData_915e3 qzRJx4a65c qcJx4a65c_elementData_915e3) rfl rfl rfl (by decide +kernel) ⟨Nat.le_of_ble_eq_true rfl, Nat.le_of_ble_eq_true rfl⟩) rfl rfl (by decide) h1 (Nat.le_of_ble_eq_true rfl) rfl dJx4a65c_get_915e3_11 ⟨Nat.le_of_ble_eq_true rfl, Nat.le_of_ble_eq_true rfl⟩ (fun r S' hp => ?_)
  refine k_sub [] rfl ?_
  exact kk r S' hp
theorem bJx4a65c_get_915e3_14 (B : Bd p s m args meth c cJx4a65c_get_915e3 2 (wsOf yJx4a65c_get_915e3 cJx4a65c_get_915e3 2 (some (.object "java/lang/Object"))) RJx4a65c w (some (.object "java/lang/Object")) "get") {t0 : Nat} {post : Nat → St → Prop}  (hq : post t0 S) : K p l e rJx4a65c_get_915e3 s m args below meth c 2 w 0 0 (MQ below (va_Qr (fun _ : St => True) (fun S' a t => Hd w S' t.heap ∧ post a S') (wA w)) args s 0 0 (wA w)) S 14 [] [.ref t0] := by
  exact ret_R B rfl (Or.inl ⟨_, rfl⟩) dJx4a65c_get_915e3_14 (hq)
theorem bJ8_newLength_cabcc_0 (B : Bd p s m args meth c cJ8_newLength_cabcc 4 (wsOf yJ8_newLength_cabcc cJ8_newLength_cabcc 4 (some .int)) RJ8 w (some .int) "newLength") {v0 : Int32} {v1 : Int32} {v2 : Int32} {Q : State → Prop}  (kt : (v0 + (if v1 < v2 then v2 else v1)) ≤ 0 → K p l e rJ8_newLength_cabcc s m args below meth c 4 w 0 0 Q S 21 [(0, .int v0), (1, .int v1)] []) (kf : ¬ (v0 + (if v1 < v2 then v2 else v1)) ≤ 0 → K p l e rJ8_newLength_cabcc s m args below meth c 4 w 0 0 Q S 13 [(0, .int v0), (1, .int v1), (3, .int (v0 + (if v1 < v2 then v2 else v1)))] []) : K p l e rJ8_newLength_cabcc s m args below meth c 4 w 0 0 Q S 0 [(0, .int v0), (1, .int v1), (2, .int v2)] [] := by
  refine k_iload_n B 0 rfl rfl dJ8_newLength_cabcc_0 ?_
  refine k_iload_n B 1 rfl rfl dJ8_newLength_cabcc_1 ?_
  refine k_iload_n B 2 rfl rfl dJ8_newLength_cabcc_2 ?_
  refine k_max B (in_of qlRJ8_194) (in_of qs_max) (in_of qz_Math) (in_of qc_max) (Nat.le_of_ble_eq_true rfl) (Nat.le_of_ble_eq_true rfl) (Nat.le_of_ble_eq_true rfl) (Nat.le_of_ble_eq_true rfl) dJ8_newLength_cabcc_3 ?_
  refine k_iadd B dJ8_newLength_cabcc_6 ?_
  refine k_istore_n (lst' := [(3, .int (v0 + (if v1 < v2 then v2 else v1))), (0, .int v0), (1, .int v1), (2, .int v2)]) B rfl (by decide) rfl dJ8_newLength_cabcc_7 ?_
  refine k_iconst (v := 0) B (by decide) dJ8_newLength_cabcc_8 ?_
  refine k_iload_n B 0 rfl rfl dJ8_newLength_cabcc_9 ?_
  refine k_icmp_ge (tgt := 21) B dJ8_newLength_cabcc_10 (by decide) (fun c => ?_) (fun c => ?_)
  · refine k_sub [1, 2] rfl ?_
    exact kt c
  · refine k_sub [1, 2, 0] rfl ?_
    exact kf c
theorem bJ8_newLength_cabcc_13 (B : Bd p s m args meth c cJ8_newLength_cabcc 4 (wsOf yJ8_newLength_cabcc cJ8_newLength_cabcc 4 (some .int)) RJ8 w (some .int) "newLength") {v0 : Int32} {v1 : Int32} {v3 : Int32} {Q : State → Prop}  (kt : 2147483639 < v3 → K p l e rJ8_newLength_cabcc s m args below meth c 4 w 0 0 Q S 21 [(0, .int v0), (1, .int v1)] []) (kf : ¬ 2147483639 < v3 → K p l e rJ8_newLength_cabcc s m args below meth c 4 w 0 0 Q S 19 [(3, .int v3)] []) : K p l e rJ8_newLength_cabcc s m args below meth c 4 w 0 0 Q S 13 [(0, .int v0), (1, .int v1), (3, .int v3)] [] := by
  refine k_iload_n B 2 rfl rfl dJ8_newLength_cabcc_13 ?_
  refine k_ldc (v := 2147483639) B (in_of qtRJ8_200) dJ8_newLength_cabcc_14 ?_
  refine k_icmp_gt (tgt := 21) B dJ8_newLength_cabcc_16 (by decide) (fun c => ?_) (fun c => ?_)
  · refine k_sub [0, 1] rfl ?_
    exact kt c
  · refine k_sub [2] rfl ?_
    exact kf c
theorem bJ8_newLength_cabcc_19 (B : Bd p s m args meth c cJ8_newLength_cabcc 4 (wsOf yJ8_newLength_cabcc cJ8_newLength_cabcc 4 (some .int)) RJ8 w (some .int) "newLength") {v3 : Int32} {post : Int32 → St → Prop}  (hq : post v3 S) : K p l e rJ8_newLength_cabcc s m args below meth c 4 w 0 0 (MQ below (va_Qi post (fun S' t => Hd w S' t.heap) (wA w)) args s 0 0 (wA w)) S 19 [(3, .int v3)] [] := by
  refine k_iload_n B 0 rfl rfl dJ8_newLength_cabcc_19 ?_
  exact ret_I B rfl dJ8_newLength_cabcc_20 (hq)
theorem bJ8_newLength_cabcc_21 (B : Bd p s m args meth c cJ8_newLength_cabcc 4 (wsOf yJ8_newLength_cabcc cJ8_newLength_cabcc 4 (some .int)) RJ8 w (some .int) "newLength") {v0 : Int32} {v1 : Int32} {post : Int32 → St → Prop} {Q : State → Prop} (hc : ConI l yJ8_hugeLength_7cf53 (wsOf yJ8_hugeLength_7cf53 cJ8_hugeLength_7cf53 3 (some .int)) rJ8_hugeLength_7cf53 w S [.int v0, .int v1] post) (kk : ∀ (r : Int32) (S' : St), post r S' → K p l e rJ8_newLength_cabcc s m args below meth c 4 w 0 0 Q S' 26 [] [.int r]) : K p l e rJ8_newLength_cabcc s m args below meth c 4 w 0 0 Q S 21 [(0, .int v0), (1, .int v1)] [] := by
  refine k_iload_n B 0 rfl rfl dJ8_newLength_cabcc_21 ?_
  refine k_iload_n B 1 rfl rfl dJ8_newLength_cabcc_22 ?_
  refine callS_I (st := []) B [.int v0, .int v1] (hc) (va_cwS 2 B.1.2.2.2.2 (gS qlRJ8_201 qsJ8_hugeLength_7cf53 qzRJ8 qcJ8_hugeLength_7cf53) rfl rfl rfl (by decide +kernel) ⟨Nat.le_of_ble_eq_true rfl, Nat.le_of_ble_eq_true rfl⟩) rfl (Nat.le_of_ble_eq_true rfl) rfl dJ8_newLength_cabcc_23 ⟨Nat.le_of_ble_eq_true rfl, Nat.le_of_ble_eq_true rfl⟩ (fun r S' hp => ?_)
  refine k_sub [] rfl ?_
  exact kk r S' hp
theorem bJ8_newLength_cabcc_26 (B : Bd p s m args meth c cJ8_newLength_cabcc 4 (wsOf yJ8_newLength_cabcc cJ8_newLength_cabcc 4 (some .int)) RJ8 w (some .int) "newLength") {t0 : Int32} {post : Int32 → St → Prop}  (hq : post t0 S) : K p l e rJ8_newLength_cabcc s m args below meth c 4 w 0 0 (MQ below (va_Qi post (fun S' t => Hd w S' t.heap) (wA w)) args s 0 0 (wA w)) S 26 [] [.int t0] := by
  exact ret_I B rfl dJ8_newLength_cabcc_26 (hq)
theorem bJ7_copyOf_6403c_0 (B : Bd p s m args meth c cJ7_copyOf_6403c 4 (wsOf yJ7_copyOf_6403c cJ7_copyOf_6403c 4 (some (.array (.object "java/lang/Object")))) RJ7 w (some (.array (.object "java/lang/Object"))) "copyOf") {v0 : Nat} {v1 : Int32} {v2 : Nat} {k n : Nat} {Q : State → Prop}  (kt : ¬ (some v2) = (some (wM w)) → K p l e rJ7_copyOf_6403c s m args below meth c 4 w k n Q S 13 [] []) (kf : (some v2) = (some (wM w)) → K p l e rJ7_copyOf_6403c s m args below meth c 4 w k n Q S 6 [(0, .ref v0), (1, .int v1)] []) : K p l e rJ7_copyOf_6403c s m args below meth c 4 w k n Q S 0 [(0, .ref v0), (1, .int v1), (2, .ref v2)] [] := by
  refine k_aload_n B 2 rfl rfl dJ7_copyOf_6403c_0 ?_
  refine k_ldcM B (in_of qkRJ7_110) dJ7_copyOf_6403c_1 ?_
  refine k_acmp_ne (rx := some v2) (ry := some (wM w)) (tgt := 13) B dJ7_copyOf_6403c_3 (by decide) (fun c => ?_) (fun c => ?_)
  · refine k_sub [] rfl ?_
    exact kt c
  · refine k_sub [0, 1] rfl ?_
    exact kf c
theorem bJ7_copyOf_6403c_6 (B : Bd p s m args meth c cJ7_copyOf_6403c 4 (wsOf yJ7_copyOf_6403c cJ7_copyOf_6403c 4 (some (.array (.object "java/lang/Object")))) RJ7 w (some (.array (.object "java/lang/Object"))) "copyOf") {v0 : Nat} {v1 : Int32} {N1 : Nat} {k n : Nat} {Q : State → Prop} (h1 : ¬ v1 < 0) (h2 : v1.toNatClampNeg = N1) (h3 : N1 * 4 ≤ 536870912) (h4 : k + 1 ≤ rJ7_copyOf_6403c.cells) (h5 : n + N1 ≤ rJ7_copyOf_6403c.slots) (kk : ∀ q7 : Nat, kd S q7 = 0 → K p l e rJ7_copyOf_6403c s m args below meth c 4 w (k + 1) (n + N1) Q (nw S q7 23 N1) 10 [(0, .ref v0), (1, .int v1)] [.ref q7]) : K p l e rJ7_copyOf_6403c s m args below meth c 4 w k n Q S 6 [(0, .ref v0), (1, .int v1)] [] := by
  refine k_iload_n B 1 rfl rfl dJ7_copyOf_6403c_6 ?_
  refine k_newO (N' := N1) B (in_of qkRJ7_2) h1 h2 h3 h4 h5 dJ7_copyOf_6403c_7 (fun q7 f7 => ?_)
  exact kk q7 f7
theorem bJ7_copyOf_6403c_10 (B : Bd p s m args meth c cJ7_copyOf_6403c 4 (wsOf yJ7_copyOf_6403c cJ7_copyOf_6403c 4 (some (.array (.object "java/lang/Object")))) RJ7 w (some (.array (.object "java/lang/Object"))) "copyOf") {v0 : Nat} {v1 : Int32} {t0 : Nat} {k n : Nat} {Q : State → Prop}  (kk : K p l e rJ7_copyOf_6403c s m args below meth c 4 w k n Q S 24 [(0, .ref v0), (1, .int v1)] [.ref t0]) : K p l e rJ7_copyOf_6403c s m args below meth c 4 w k n Q S 10 [(0, .ref v0), (1, .int v1)] [.ref t0] := by
  refine k_goto (tgt := 24) B dJ7_copyOf_6403c_10 (by decide) ?_
  exact kk
theorem bJ7_copyOf_6403c_24 (B : Bd p s m args meth c cJ7_copyOf_6403c 4 (wsOf yJ7_copyOf_6403c cJ7_copyOf_6403c 4 (some (.array (.object "java/lang/Object")))) RJ7 w (some (.array (.object "java/lang/Object"))) "copyOf") {v0 : Nat} {v1 : Int32} {t0 : Nat} {ci : Nat} {rr : vw_C} {post : Nat → St → Prop} {k n : Nat} (h1 : kd S v0 = 23) (h2 : k ≤ rJ7_copyOf_6403c.cells) (h3 : n ≤ rJ7_copyOf_6403c.slots) (h4 : kd S t0 = 23) (h5 : vwCl[ci]? = some rr) (h6 : ci < 15) (h7 : rr.1 ∈ NOb) (h8 : ∀ i : Nat, i < (if v1 < (nI (ln S v0)) then v1 else (nI (ln S v0))).toNatClampNeg → ∀ y : Nat, rP S v0 ((0 : Int32).toNatClampNeg + i) = some y → kd S y = ci + 1) (h9 : ¬ (if v1 < (nI (ln S v0)) then v1 else (nI (ln S v0))) < 0) (h10 : (0 : Int32).toNatClampNeg + (if v1 < (nI (ln S v0)) then v1 else (nI (ln S v0))).toNatClampNeg ≤ ln S v0) (h11 : (0 : Int32).toNatClampNeg + (if v1 < (nI (ln S v0)) then v1 else (nI (ln S v0))).toNatClampNeg ≤ ln S t0) (hq : post t0 (sRP S t0 (va_cpy (rP S v0) (rP S t0) (0 : Int32).toNatClampNeg (0 : Int32).toNatClampNeg (if v1 < (nI (ln S v0)) then v1 else (nI (ln S v0))).toNatClampNeg))) : K p l e rJ7_copyOf_6403c s m args below meth c 4 w k n (MQ below (va_Qr (fun _ : St => True) (fun S' a t => Hd w S' t.heap ∧ post a S') (wA w)) args s k n (wA w)) S 24 [(0, .ref v0), (1, .int v1)] [.ref t0] := by
  refine k_astore_n (lst' := [(3, .ref t0), (0, .ref v0), (1, .int v1)]) B rfl (by decide) rfl dJ7_copyOf_6403c_24 ?_
  refine k_aload_n B 1 rfl rfl dJ7_copyOf_6403c_25 ?_
  refine k_iconst (v := 0) B (by decide) dJ7_copyOf_6403c_26 ?_
  refine k_aload_n B 0 rfl rfl dJ7_copyOf_6403c_27 ?_
  refine k_iconst (v := 0) B (by decide) dJ7_copyOf_6403c_28 ?_
  refine k_aload_n B 1 rfl rfl dJ7_copyOf_6403c_29 ?_
  refine k_olen (v := nI (ln S v0)) B dJ7_copyOf_6403c_30 h1 rfl ?_
  refine k_iload_n B 2 rfl rfl dJ7_copyOf_6403c_31 ?_
  refine k_min B (in_of qlRJ7_304) (in_of qs_min) (in_of qz_Math) (in_of qc_min) (Nat.le_of_ble_eq_true rfl) (Nat.le_of_ble_eq_true rfl) h2 h3 dJ7_copyOf_6403c_32 ?_
  refine k_ocopy B (in_of qlRJ7_150) (in_of qnat_copy) (in_of qs_copy) (in_of qz_System) h1 h4 h5 h6 h7 h8 (by decide) (by decide) h9 h10 h11 (Nat.le_of_ble_eq_true rfl) (Nat.le_of_ble_eq_true rfl) dJ7_copyOf_6403c_35 ?_
  refine k_aload_n B 0 rfl rfl dJ7_copyOf_6403c_38 ?_
  exact ret_R B rfl (Or.inr ⟨_, rfl⟩) dJ7_copyOf_6403c_39 (hq)
theorem bJ7_copyOf_1904c_0 (B : Bd p s m args meth c cJ7_copyOf_1904c 2 (wsOf yJ7_copyOf_1904c cJ7_copyOf_1904c 2 (some (.array (.object "java/lang/Object")))) RJ7 w (some (.array (.object "java/lang/Object"))) "copyOf") {v0 : Nat} {v1 : Int32} {post : Nat → St → Prop} {k n : Nat} {Q : State → Prop} (h1 : kd S v0 = 23) (hc : ConR l yJ7_copyOf_6403c (wsOf yJ7_copyOf_6403c cJ7_copyOf_6403c 4 (some (.array (.object "java/lang/Object")))) rJ7_copyOf_6403c w S [.ref v0, .int v1, .ref (wM w)] post) (h2 : k + 1 ≤ rJ7_copyOf_1904c.cells) (h3 : n + 40 ≤ rJ7_copyOf_1904c.slots) (kk : ∀ (r : Nat) (S' : St), post r S' → K p l e rJ7_copyOf_1904c s m args below meth c 2 w (k + 1) (n + 40) Q S' 9 [] [.ref r]) : K p l e rJ7_copyOf_1904c s m args below meth c 2 w k n Q S 0 [(0, .ref v0), (1, .int v1)] [] := by
  refine k_aload_n B 0 rfl rfl dJ7_copyOf_1904c_0 ?_
  refine k_iload_n B 1 rfl rfl dJ7_copyOf_1904c_1 ?_
  refine k_aload_n B 0 rfl rfl dJ7_copyOf_1904c_2 ?_
  refine k_getC B (in_of qlRJ7_86) (in_of qsel_gc) (in_of qi_gc) (in_of qnat_gc) h1 (Nat.le_of_ble_eq_true rfl) (Nat.le_of_ble_eq_true rfl) dJ7_copyOf_1904c_3 ?_
  refine callS_R (st := []) B [.ref v0, .int v1, .ref (wM w)] (hc) (va_cwS 3 B.1.2.2.2.2 (gS qlRJ7_300 qsJ7_copyOf_6403c qzRJ7 qcJ7_copyOf_6403c) rfl rfl rfl (by decide +kernel) ⟨Nat.le_of_ble_eq_true rfl, Nat.le_of_ble_eq_true rfl⟩) rfl (Nat.le_of_ble_eq_true rfl) rfl dJ7_copyOf_1904c_6 ⟨h2, h3⟩ (fun r S' hp => ?_)
  refine k_sub [] rfl ?_
  exact kk r S' hp
theorem bJ7_copyOf_1904c_9 (B : Bd p s m args meth c cJ7_copyOf_1904c 2 (wsOf yJ7_copyOf_1904c cJ7_copyOf_1904c 2 (some (.array (.object "java/lang/Object")))) RJ7 w (some (.array (.object "java/lang/Object"))) "copyOf") {t0 : Nat} {post : Nat → St → Prop} {k n : Nat}  (hq : post t0 S) : K p l e rJ7_copyOf_1904c s m args below meth c 2 w k n (MQ below (va_Qr (fun _ : St => True) (fun S' a t => Hd w S' t.heap ∧ post a S') (wA w)) args s k n (wA w)) S 9 [] [.ref t0] := by
  exact ret_R B rfl (Or.inr ⟨_, rfl⟩) dJ7_copyOf_1904c_9 (hq)
theorem bJx4a65c_grow_92f84_0 (B : Bd p s m args meth c cJx4a65c_grow_92f84 4 (wsOf yJx4a65c_grow_92f84 cJx4a65c_grow_92f84 4 (some (.array (.object "java/lang/Object")))) RJx4a65c w (some (.array (.object "java/lang/Object"))) "grow") {v0 : Nat} {v1 : Int32} {x1 : Nat} {N2 : Nat} {k n : Nat} {Q : State → Prop} (h1 : kd S v0 = 1) (h2 : gP S 1 v0 = some x1) (h3 : Oa w S x1 N2) (kt : 0 < (nI N2) → K p l e rJx4a65c_grow_92f84 s m args below meth c 4 w k n Q S 20 [(0, .ref v0), (1, .int v1), (2, .int (nI N2))] []) (kf : ¬ 0 < (nI N2) → K p l e rJx4a65c_grow_92f84 s m args below meth c 4 w k n Q S 10 [(0, .ref v0), (1, .int v1), (2, .int (nI N2))] []) : K p l e rJx4a65c_grow_92f84 s m args below meth c 4 w k n Q S 0 [(0, .ref v0), (1, .int v1)] [] := by
  refine k_aload_n B 0 rfl rfl dJx4a65c_grow_92f84_0 ?_
  refine k_getP (f := 1) (r := gP S 1 v0) B 0 1 rfl (by decide) rfl (by decide) rfl rfl (fun w h => in_of (uw_0 w h)) (in_of qfRJx4a65c_9) dJx4a65c_grow_92f84_1 h1 rfl ?_
  rw [h2]; change K _ _ _ _ _ _ _ _ _ _ _ _ _ _ _ _ _ _ (.ref x1 :: _)
  refine k_oalen (v := nI N2) B dJx4a65c_grow_92f84_4 h3 rfl ?_
  refine k_istore_n (lst' := [(2, .int (nI N2)), (0, .ref v0), (1, .int v1)]) B rfl (by decide) rfl dJx4a65c_grow_92f84_5 ?_
  refine k_iload_n B 0 rfl rfl dJx4a65c_grow_92f84_6 ?_
  refine k_if_gt (tgt := 20) B dJx4a65c_grow_92f84_7 (by decide) (fun c => ?_) (fun c => ?_)
  · refine k_sub [1, 2, 0] rfl ?_
    exact kt c
  · refine k_sub [1, 2, 0] rfl ?_
    exact kf c
theorem bJx4a65c_grow_92f84_10 (B : Bd p s m args meth c cJx4a65c_grow_92f84 4 (wsOf yJx4a65c_grow_92f84 cJx4a65c_grow_92f84 4 (some (.array (.object "java/lang/Object")))) RJx4a65c w (some (.array (.object "java/lang/Object"))) "grow") {v0 : Nat} {v1 : Int32} {v2 : Int32} {x1 : Nat} {k n : Nat} {Q : State → Prop} (h1 : kd S v0 = 1) (h2 : gP S 1 v0 = some x1) (kt : (some x1) = (some (wE w)) → K p l e rJx4a65c_grow_92f84 s m args below meth c 4 w k n Q S 45 [(0, .ref v0), (1, .int v1)] []) (kf : ¬ (some x1) = (some (wE w)) → K p l e rJx4a65c_grow_92f84 s m args below meth c 4 w k n Q S 20 [(0, .ref v0), (1, .int v1), (2, .int v2)] []) : K p l e rJx4a65c_grow_92f84 s m args below meth c 4 w k n Q S 10 [(0, .ref v0), (1, .int v1), (2, .int v2)] [] := by
  refine k_aload_n B 0 rfl rfl dJx4a65c_grow_92f84_10 ?_
  refine k_getP (f := 1) (r := gP S 1 v0) B 0 1 rfl (by decide) rfl (by decide) rfl rfl (fun w h => in_of (uw_0 w h)) (in_of qfRJx4a65c_9) dJx4a65c_grow_92f84_11 h1 rfl ?_
  rw [h2]; change K _ _ _ _ _ _ _ _ _ _ _ _ _ _ _ _ _ _ (.ref x1 :: _)
  refine k_getsE B (in_of qfRJx4a65c_39) dJx4a65c_grow_92f84_14 ?_
  refine k_acmp_eq (rx := some x1) (ry := some (wE w)) (tgt := 45) B dJx4a65c_grow_92f84_17 (by decide) (fun c => ?_) (fun c => ?_)
  · refine k_sub [0, 1] rfl ?_
    exact kt c
  · exact kf c
theorem bJx4a65c_grow_92f84_20 (B : Bd p s m args meth c cJx4a65c_grow_92f84 4 (wsOf yJx4a65c_grow_92f84 cJx4a65c_grow_92f84 4 (some (.array (.object "java/lang/Object")))) RJx4a65c w (some (.array (.object "java/lang/Object"))) "grow") {v0 : Nat} {v1 : Int32} {v2 : Int32} {post : Int32 → St → Prop} {k n : Nat} {Q : State → Prop} (hc : ConI l yJ8_newLength_cabcc (wsOf yJ8_newLength_cabcc cJ8_newLength_cabcc 4 (some .int)) rJ8_newLength_cabcc w S [.int v2, .int (v1 - v2), .int (v2 >>> (1 &&& 31))] post) (h1 : k + 0 ≤ rJx4a65c_grow_92f84.cells) (h2 : n + 0 ≤ rJx4a65c_grow_92f84.slots) (kk : ∀ (r : Int32) (S' : St), post r S' → K p l e rJx4a65c_grow_92f84 s m args below meth c 4 w k n Q S' 30 [(0, .ref v0)] [.int r]) : K p l e rJx4a65c_grow_92f84 s m args below meth c 4 w k n Q S 20 [(0, .ref v0), (1, .int v1), (2, .int v2)] [] := by
  refine k_iload_n B 2 rfl rfl dJx4a65c_grow_92f84_20 ?_
  refine k_iload_n B 1 rfl rfl dJx4a65c_grow_92f84_21 ?_
  refine k_iload_n B 2 rfl rfl dJx4a65c_grow_92f84_22 ?_
  refine k_isub B dJx4a65c_grow_92f84_23 ?_
  refine k_iload_n B 2 rfl rfl dJx4a65c_grow_92f84_24 ?_
  refine k_iconst (v := 1) B (by decide) dJx4a65c_grow_92f84_25 ?_
  refine k_ishr B dJx4a65c_grow_92f84_26 ?_
  refine callS_I (st := []) B [.int v2, .int (v1 - v2), .int (v2 >>> (1 &&& 31))] (hc) (va_cwS 3 B.1.2.2.2.2 (gS qlRJx4a65c_73 qsJ8_newLength_cabcc qzRJ8 qcJ8_newLength_cabcc) rfl rfl rfl (by decide +kernel) ⟨Nat.le_of_ble_eq_true rfl, Nat.le_of_ble_eq_true rfl⟩) rfl (Nat.le_of_ble_eq_true rfl) rfl dJx4a65c_grow_92f84_27 ⟨h1, h2⟩ (fun r S' hp => ?_)
  refine k_sub [0] rfl ?_
  exact kk r S' hp
theorem bJx4a65c_grow_92f84_30 (B : Bd p s m args meth c cJx4a65c_grow_92f84 4 (wsOf yJx4a65c_grow_92f84 cJx4a65c_grow_92f84 4 (some (.array (.object "java/lang/Object")))) RJx4a65c w (some (.array (.object "java/lang/Object"))) "grow") {v0 : Nat} {t0 : Int32} {x1 : Nat} {post : Nat → St → Prop} {k n : Nat} {Q : State → Prop} (h1 : kd S v0 = 1) (h2 : gP S 1 v0 = some x1) (hc : ConR l yJ7_copyOf_1904c (wsOf yJ7_copyOf_1904c cJ7_copyOf_1904c 2 (some (.array (.object "java/lang/Object")))) rJ7_copyOf_1904c w S [.ref x1, .int t0] post) (h3 : k + 1 ≤ rJx4a65c_grow_92f84.cells) (h4 : n + 40 ≤ rJx4a65c_grow_92f84.slots) (kk : ∀ (r : Nat) (S' : St), post r S' → K p l e rJx4a65c_grow_92f84 s m args below meth c 4 w (k + 1) (n + 40) Q S' 40 [] [.ref r, .ref v0]) : K p l e rJx4a65c_grow_92f84 s m args below meth c 4 w k n Q S 30 [(0, .ref v0)] [.int t0] := by
  refine k_istore_n (lst' := [(3, .int t0), (0, .ref v0)]) B rfl (by decide) rfl dJx4a65c_grow_92f84_30 ?_
  refine k_aload_n B 1 rfl rfl dJx4a65c_grow_92f84_31 ?_
  refine k_aload_n B 1 rfl rfl dJx4a65c_grow_92f84_32 ?_
  refine k_getP (f := 1) (r := gP S 1 v0) B 0 1 rfl (by decide) rfl (by decide) rfl rfl (fun w h => in_of (uw_0 w h)) (in_of qfRJx4a65c_9) dJx4a65c_grow_92f84_33 h1 rfl ?_
  rw [h2]; change K _ _ _ _ _ _ _ _ _ _ _ _ _ _ _ _ _ _ (.ref x1 :: _)
  refine k_iload_n B 0 rfl rfl dJx4a65c_grow_92f84_36 ?_
  refine callS_R (st := [.ref v0]) B [.ref x1, .int t0] (hc) (va_cwS 2 B.1.2.2.2.2 (gS qlRJx4a65c_66 qsJ7_copyOf_1904c qzRJ7 qcJ7_copyOf_1904c) rfl rfl rfl (by decide +kernel) ⟨Nat.le_of_ble_eq_true rfl, Nat.le_of_ble_eq_true rfl⟩) rfl (Nat.le_of_ble_eq_true rfl) rfl dJx4a65c_grow_92f84_37 ⟨h3, h4⟩ (fun r S' hp => ?_)
  refine k_sub [] rfl ?_
  exact kk r S' hp
theorem bJx4a65c_grow_92f84_40 (B : Bd p s m args meth c cJx4a65c_grow_92f84 4 (wsOf yJx4a65c_grow_92f84 cJx4a65c_grow_92f84 4 (some (.array (.object "java/lang/Object")))) RJx4a65c w (some (.array (.object "java/lang/Object"))) "grow") {t0 : Nat} {t1 : Nat} {post : Nat → St → Prop} {k n : Nat} (h1 : kd S t0 = 1) (hq : post t1 (sP S 1 t0 (some t1))) : K p l e rJx4a65c_grow_92f84 s m args below meth c 4 w k n (MQ below (va_Qr (fun _ : St => True) (fun S' a t => Hd w S' t.heap ∧ post a S') (wA w)) args s k n (wA w)) S 40 [] [.ref t1, .ref t0] := by
  refine k_dup_x1 B rfl rfl dJx4a65c_grow_92f84_40 ?_
  refine k_putP (f := 1) (v := some t1) B 0 1 rfl (by decide) rfl (by decide) rfl rfl (fun w h => in_of (uw_0 w h)) (in_of qfRJx4a65c_9) tyJx4a65c tyJx4a65c_ok nmJx4a65c rfl (tyJx4a65c_ok 1 (by decide)) rfl rfl dJx4a65c_grow_92f84_41 h1 ?_
  exact ret_R B rfl (Or.inr ⟨_, rfl⟩) dJx4a65c_grow_92f84_44 (hq)
theorem bJx4a65c_grow_92f84_45 (B : Bd p s m args meth c cJx4a65c_grow_92f84 4 (wsOf yJx4a65c_grow_92f84 cJx4a65c_grow_92f84 4 (some (.array (.object "java/lang/Object")))) RJx4a65c w (some (.array (.object "java/lang/Object"))) "grow") {v0 : Nat} {v1 : Int32} {N1 : Nat} {k n : Nat} {Q : State → Prop} (h1 : k ≤ rJx4a65c_grow_92f84.cells) (h2 : n ≤ rJx4a65c_grow_92f84.slots) (h3 : ¬ (if 10 < v1 then v1 else 10) < 0) (h4 : (if 10 < v1 then v1 else 10).toNatClampNeg = N1) (h5 : N1 * 4 ≤ 536870912) (h6 : k + 1 ≤ rJx4a65c_grow_92f84.cells) (h7 : n + N1 ≤ rJx4a65c_grow_92f84.slots) (kk : ∀ q52 : Nat, kd S q52 = 0 → K p l e rJx4a65c_grow_92f84 s m args below meth c 4 w (k + 1) (n + N1) Q (nw S q52 23 N1) 55 [] [.ref q52, .ref v0]) : K p l e rJx4a65c_grow_92f84 s m args below meth c 4 w k n Q S 45 [(0, .ref v0), (1, .int v1)] [] := by
  refine k_aload_n B 0 rfl rfl dJx4a65c_grow_92f84_45 ?_
  refine k_bipush (v := 10) B (by decide) dJx4a65c_grow_92f84_46 ?_
  refine k_iload_n B 1 rfl rfl dJx4a65c_grow_92f84_48 ?_
  refine k_max B (in_of qlRJx4a65c_79) (in_of qs_max) (in_of qz_Math) (in_of qc_max) (Nat.le_of_ble_eq_true rfl) (Nat.le_of_ble_eq_true rfl) h1 h2 dJx4a65c_grow_92f84_49 ?_
  refine k_newO (N' := N1) B (in_of qkRJx4a65c_7) h3 h4 h5 h6 h7 dJx4a65c_grow_92f84_52 (fun q52 f52 => ?_)
  refine k_sub [] rfl ?_
  exact kk q52 f52
theorem bJx4a65c_grow_92f84_55 (B : Bd p s m args meth c cJx4a65c_grow_92f84 4 (wsOf yJx4a65c_grow_92f84 cJx4a65c_grow_92f84 4 (some (.array (.object "java/lang/Object")))) RJx4a65c w (some (.array (.object "java/lang/Object"))) "grow") {t0 : Nat} {t1 : Nat} {post : Nat → St → Prop} {k n : Nat} (h1 : kd S t0 = 1) (hq : post t1 (sP S 1 t0 (some t1))) : K p l e rJx4a65c_grow_92f84 s m args below meth c 4 w k n (MQ below (va_Qr (fun _ : St => True) (fun S' a t => Hd w S' t.heap ∧ post a S') (wA w)) args s k n (wA w)) S 55 [] [.ref t1, .ref t0] := by
  refine k_dup_x1 B rfl rfl dJx4a65c_grow_92f84_55 ?_
  refine k_putP (f := 1) (v := some t1) B 0 1 rfl (by decide) rfl (by decide) rfl rfl (fun w h => in_of (uw_0 w h)) (in_of qfRJx4a65c_9) tyJx4a65c tyJx4a65c_ok nmJx4a65c rfl (tyJx4a65c_ok 1 (by decide)) rfl rfl dJx4a65c_grow_92f84_56 h1 ?_
  exact ret_R B rfl (Or.inr ⟨_, rfl⟩) dJx4a65c_grow_92f84_59 (hq)
theorem bJx4a65c_grow_d5877_0 (B : Bd p s m args meth c cJx4a65c_grow_d5877 1 (wsOf yJx4a65c_grow_d5877 cJx4a65c_grow_d5877 1 (some (.array (.object "java/lang/Object")))) RJx4a65c w (some (.array (.object "java/lang/Object"))) "grow") {v0 : Nat} {post : Nat → St → Prop} {k n : Nat} {Q : State → Prop} (h1 : kd S v0 = 1) (hc : ConR l yJx4a65c_grow_92f84 (wsOf yJx4a65c_grow_92f84 cJx4a65c_grow_92f84 4 (some (.array (.object "java/lang/Object")))) rJx4a65c_grow_92f84 w S [.ref v0, .int ((gI S 2 v0) + 1)] post) (h2 : k + 1 ≤ rJx4a65c_grow_d5877.cells) (h3 : n + 40 ≤ rJx4a65c_grow_d5877.slots) (kk : ∀ (r : Nat) (S' : St), post r S' → K p l e rJx4a65c_grow_d5877 s m args below meth c 1 w (k + 1) (n + 40) Q S' 10 [] [.ref r]) : K p l e rJx4a65c_grow_d5877 s m args below meth c 1 w k n Q S 0 [(0, .ref v0)] [] := by
  refine k_aload_n B 0 rfl rfl dJx4a65c_grow_d5877_0 ?_
  refine k_aload_n B 0 rfl rfl dJx4a65c_grow_d5877_1 ?_
  refine k_getI (f := 2) (v := gI S 2 v0) B 0 2 rfl (by decide) rfl (by decide) rfl rfl (fun w h => in_of (uw_0 w h)) (in_of qfRJx4a65c_48) dJx4a65c_grow_d5877_2 h1 rfl ?_
  refine k_iconst (v := 1) B (by decide) dJx4a65c_grow_d5877_5 ?_
  refine k_iadd B dJx4a65c_grow_d5877_6 ?_
  refine callV_R (st := []) B [.int ((gI S 2 v0) + 1)] (hc) (cwV 1 B.1.2.2.2.2 (gV qlRJx4a65c_69 qiJx4a65c_grow_92f84 qeJx4a65c_grow_92f84 qzRJx4a65c qcJx4a65c_grow_92f84) rfl rfl rfl (by decide +kernel) ⟨Nat.le_of_ble_eq_true rfl, Nat.le_of_ble_eq_true rfl⟩) rfl rfl (by decide) h1 (Nat.le_of_ble_eq_true rfl) rfl dJx4a65c_grow_d5877_7 ⟨h2, h3⟩ (fun r S' hp => ?_)
  refine k_sub [] rfl ?_
  exact kk r S' hp
theorem bJx4a65c_grow_d5877_10 (B : Bd p s m args meth c cJx4a65c_grow_d5877 1 (wsOf yJx4a65c_grow_d5877 cJx4a65c_grow_d5877 1 (some (.array (.object "java/lang/Object")))) RJx4a65c w (some (.array (.object "java/lang/Object"))) "grow") {t0 : Nat} {post : Nat → St → Prop} {k n : Nat}  (hq : post t0 S) : K p l e rJx4a65c_grow_d5877 s m args below meth c 1 w k n (MQ below (va_Qr (fun _ : St => True) (fun S' a t => Hd w S' t.heap ∧ post a S') (wA w)) args s k n (wA w)) S 10 [] [.ref t0] := by
  exact ret_R B rfl (Or.inr ⟨_, rfl⟩) dJx4a65c_grow_d5877_10 (hq)
theorem bJx4a65c_add_72be8_0 (B : Bd p s m args meth c cJx4a65c_add_72be8 4 (wsOf yJx4a65c_add_72be8 cJx4a65c_add_72be8 4 none) RJx4a65c w none "add") {v0 : Nat} {v1 : Nat} {v2 : Nat} {v3 : Int32} {N1 : Nat} {k n : Nat} {Q : State → Prop} (h1 : Oa w S v2 N1) (kt : ¬ v3 = (nI N1) → K p l e rJx4a65c_add_72be8 s m args below meth c 4 w k n Q S 11 [(0, .ref v0), (1, .ref v1), (2, .ref v2), (3, .int v3)] []) (kf : v3 = (nI N1) → K p l e rJx4a65c_add_72be8 s m args below meth c 4 w k n Q S 6 [(0, .ref v0), (1, .ref v1), (3, .int v3)] []) : K p l e rJx4a65c_add_72be8 s m args below meth c 4 w k n Q S 0 [(0, .ref v0), (1, .ref v1), (2, .ref v2), (3, .int v3)] [] := by
  refine k_iload_n B 3 rfl rfl dJx4a65c_add_72be8_0 ?_
  refine k_aload_n B 2 rfl rfl dJx4a65c_add_72be8_1 ?_
  refine k_oalen (v := nI N1) B dJx4a65c_add_72be8_2 h1 rfl ?_
  refine k_icmp_ne (tgt := 11) B dJx4a65c_add_72be8_3 (by decide) (fun c => ?_) (fun c => ?_)
  · exact kt c
  · refine k_sub [0, 1, 3] rfl ?_
    exact kf c
theorem bJx4a65c_add_72be8_6 (B : Bd p s m args meth c cJx4a65c_add_72be8 4 (wsOf yJx4a65c_add_72be8 cJx4a65c_add_72be8 4 none) RJx4a65c w none "add") {v0 : Nat} {v1 : Nat} {v3 : Int32} {post : Nat → St → Prop} {k n : Nat} {Q : State → Prop} (hc : ConR l yJx4a65c_grow_d5877 (wsOf yJx4a65c_grow_d5877 cJx4a65c_grow_d5877 1 (some (.array (.object "java/lang/Object")))) rJx4a65c_grow_d5877 w S [.ref v0] post) (h1 : k + 1 ≤ rJx4a65c_add_72be8.cells) (h2 : n + 40 ≤ rJx4a65c_add_72be8.slots) (h3 : kd S v0 = 1) (kk : ∀ (r : Nat) (S' : St), post r S' → K p l e rJx4a65c_add_72be8 s m args below meth c 4 w (k + 1) (n + 40) Q S' 10 [(0, .ref v0), (1, .ref v1), (3, .int v3)] [.ref r]) : K p l e rJx4a65c_add_72be8 s m args below meth c 4 w k n Q S 6 [(0, .ref v0), (1, .ref v1), (3, .int v3)] [] := by
  refine k_aload_n B 0 rfl rfl dJx4a65c_add_72be8_6 ?_
  refine callV_R (st := []) B [] (hc) (cwV 0 B.1.2.2.2.2 (gV qlRJx4a65c_129 qiJx4a65c_grow_d5877 qeJx4a65c_grow_d5877 qzRJx4a65c qcJx4a65c_grow_d5877) rfl rfl rfl (by decide +kernel) ⟨Nat.le_of_ble_eq_true rfl, Nat.le_of_ble_eq_true rfl⟩) rfl rfl (by decide) h3 (Nat.le_of_ble_eq_true rfl) rfl dJx4a65c_add_72be8_7 ⟨h1, h2⟩ (fun r S' hp => ?_)
  exact kk r S' hp
theorem bJx4a65c_add_72be8_10 (B : Bd p s m args meth c cJx4a65c_add_72be8 4 (wsOf yJx4a65c_add_72be8 cJx4a65c_add_72be8 4 none) RJx4a65c w none "add") {v0 : Nat} {v1 : Nat} {v3 : Int32} {t0 : Nat} {k n : Nat} {Q : State → Prop}  (kk : K p l e rJx4a65c_add_72be8 s m args below meth c 4 w k n Q S 11 [(0, .ref v0), (1, .ref v1), (2, .ref t0), (3, .int v3)] []) : K p l e rJx4a65c_add_72be8 s m args below meth c 4 w k n Q S 10 [(0, .ref v0), (1, .ref v1), (3, .int v3)] [.ref t0] := by
  refine k_astore_n (lst' := [(2, .ref t0), (0, .ref v0), (1, .ref v1), (3, .int v3)]) B rfl (by decide) rfl dJx4a65c_add_72be8_10 ?_
  refine k_sub [1, 2, 0, 3] rfl ?_
  exact kk
theorem bJx4a65c_add_72be8_11 (B : Bd p s m args meth c cJx4a65c_add_72be8 4 (wsOf yJx4a65c_add_72be8 cJx4a65c_add_72be8 4 none) RJx4a65c w none "add") {v0 : Nat} {v1 : Nat} {v2 : Nat} {v3 : Int32} {ci : Nat} {rr : vw_C} {post : St → Prop} {k n : Nat} (h1 : kd S v2 = 23) (h2 : vwCl[ci]? = some rr) (h3 : ci < 15) (h4 : rr.1 ∈ NOb) (h5 : kd S v1 = ci + 1) (h6 : vp_in v3 (ln S v2)) (h7 : kd S v0 = 1) (hq : post (sI (sRP S v2 (va_up (rP S v2) v3.toNatClampNeg (some v1))) 2 v0 (v3 + 1))) : K p l e rJx4a65c_add_72be8 s m args below meth c 4 w k n (MQ below (va_Qv post (fun S' t => Hd w S' t.heap) (wA w)) args s k n (wA w)) S 11 [(0, .ref v0), (1, .ref v1), (2, .ref v2), (3, .int v3)] [] := by
  refine k_aload_n B 2 rfl rfl dJx4a65c_add_72be8_11 ?_
  refine k_iload_n B 3 rfl rfl dJx4a65c_add_72be8_12 ?_
  refine k_aload_n B 1 rfl rfl dJx4a65c_add_72be8_13 ?_
  refine k_oast (g := rP S v2) (S' := sRP S v2 (va_up (rP S v2) v3.toNatClampNeg (some v1))) B dJx4a65c_add_72be8_14 h1 h6 h2 h3 h4 h5 rfl rfl ?_
  refine k_aload_n B 0 rfl rfl dJx4a65c_add_72be8_15 ?_
  refine k_iload_n B 3 rfl rfl dJx4a65c_add_72be8_16 ?_
  refine k_iconst (v := 1) B (by decide) dJx4a65c_add_72be8_17 ?_
  refine k_iadd B dJx4a65c_add_72be8_18 ?_
  refine k_putI (f := 2) B 0 2 rfl (by decide) rfl (by decide) rfl rfl (fun w h => in_of (uw_0 w h)) (in_of qfRJx4a65c_48) tyJx4a65c tyJx4a65c_ok nmJx4a65c rfl (tyJx4a65c_ok 2 (by decide)) dJx4a65c_add_72be8_19 h7 ?_
  exact ret_V B rfl dJx4a65c_add_72be8_22 (hq)
theorem bJx4a65c_add_9ea2d_0 (B : Bd p s m args meth c cJx4a65c_add_9ea2d 2 (wsOf yJx4a65c_add_9ea2d cJx4a65c_add_9ea2d 2 (some .boolean)) RJx4a65c w (some .boolean) "add") {v0 : Nat} {v1 : Nat} {x1 : Nat} {post : St → Prop} {k n : Nat} {Q : State → Prop} (h1 : kd S v0 = 1) (h2 : gP S 1 v0 = some x1) (hc : ConV l yJx4a65c_add_72be8 (wsOf yJx4a65c_add_72be8 cJx4a65c_add_72be8 4 none) rJx4a65c_add_72be8 w (sI S 0 v0 ((gI S 0 v0) + 1)) [.ref v0, .ref v1, .ref x1, .int (gI S 2 v0)] post) (h3 : k + 1 ≤ rJx4a65c_add_9ea2d.cells) (h4 : n + 40 ≤ rJx4a65c_add_9ea2d.slots) (kk : ∀ (S' : St), post S' → K p l e rJx4a65c_add_9ea2d s m args below meth c 2 w (k + 1) (n + 40) Q S' 23 [] []) : K p l e rJx4a65c_add_9ea2d s m args below meth c 2 w k n Q S 0 [(0, .ref v0), (1, .ref v1)] [] := by
  refine k_aload_n B 0 rfl rfl dJx4a65c_add_9ea2d_0 ?_
  refine k_dup B rfl dJx4a65c_add_9ea2d_1 ?_
  refine k_getIS (f := 0) (v := gI S 0 v0) B 0 0 rfl (by decide) rfl (by decide) rfl rfl (fun w h => in_of (uw_0 w h)) (in_of qfRJx4a65c_63) (in_of qsame) dJx4a65c_add_9ea2d_2 h1 rfl ?_
  refine k_iconst (v := 1) B (by decide) dJx4a65c_add_9ea2d_5 ?_
  refine k_iadd B dJx4a65c_add_9ea2d_6 ?_
  refine k_putIS (f := 0) B 0 0 rfl (by decide) rfl (by decide) rfl rfl (fun w h => in_of (uw_0 w h)) (in_of qfRJx4a65c_63) (in_of qsame) tyJx4a65c tyJx4a65c_ok nmJx4a65c rfl (tyJx4a65c_ok 0 (by decide)) dJx4a65c_add_9ea2d_7 h1 ?_
  refine k_aload_n B 0 rfl rfl dJx4a65c_add_9ea2d_10 ?_
  refine k_aload_n B 1 rfl rfl dJx4a65c_add_9ea2d_11 ?_
  refine k_aload_n B 0 rfl rfl dJx4a65c_add_9ea2d_12 ?_
  refine k_getP (f := 1) (r := gP S 1 v0) B 0 1 rfl (by decide) rfl (by decide) rfl rfl (fun w h => in_of (uw_0 w h)) (in_of qfRJx4a65c_9) dJx4a65c_add_9ea2d_13 h1 rfl ?_
  rw [h2]; change K _ _ _ _ _ _ _ _ _ _ _ _ _ _ _ _ _ _ (.ref x1 :: _)
  refine k_aload_n B 0 rfl rfl dJx4a65c_add_9ea2d_16 ?_
  refine k_getI (f := 2) (v := gI S 2 v0) B 0 2 rfl (by decide) rfl (by decide) rfl rfl (fun w h => in_of (uw_0 w h)) (in_of qfRJx4a65c_48) dJx4a65c_add_9ea2d_17 h1 rfl ?_
  refine callV_V (st := []) B [.ref v1, .ref x1, .int (gI S 2 v0)] (hc) (cwV 3 B.1.2.2.2.2 (gV qlRJx4a65c_131 qiJx4a65c_add_72be8 qeJx4a65c_add_72be8 qzRJx4a65c qcJx4a65c_add_72be8) rfl rfl rfl (by decide +kernel) ⟨Nat.le_of_ble_eq_true rfl, Nat.le_of_ble_eq_true rfl⟩) rfl rfl (by decide) h1 (Nat.le_of_ble_eq_true rfl) rfl dJx4a65c_add_9ea2d_20 ⟨h3, h4⟩ (fun S' hp => ?_)
  refine k_sub [] rfl ?_
  exact kk S' hp
theorem bJx4a65c_add_9ea2d_23 (B : Bd p s m args meth c cJx4a65c_add_9ea2d 2 (wsOf yJx4a65c_add_9ea2d cJx4a65c_add_9ea2d 2 (some .boolean)) RJx4a65c w (some .boolean) "add") {post : Int32 → St → Prop} {k n : Nat}  (hq : post 1 S) : K p l e rJx4a65c_add_9ea2d s m args below meth c 2 w k n (MQ below (va_Qi post (fun S' t => Hd w S' t.heap) (wA w)) args s k n (wA w)) S 23 [] [] := by
  refine k_iconst (v := 1) B (by decide) dJx4a65c_add_9ea2d_23 ?_
  exact ret_Z B rfl dJx4a65c_add_9ea2d_24 (by decide) (hq)
theorem bJ7_fill_53178_0 (B : Bd p s m args meth c cJ7_fill_53178 4 (wsOf yJ7_fill_53178 cJ7_fill_53178 4 none) RJ7 w none "fill") {v0 : Nat} {v1 : Int32} {Q : State → Prop} (h1 : kd S v0 = 21) (kk : K p l e rJ7_fill_53178 s m args below meth c 4 w 0 0 Q S 5 [(0, .ref v0), (1, .int v1), (2, .int 0), (3, .int (nI (ln S v0)))] []) : K p l e rJ7_fill_53178 s m args below meth c 4 w 0 0 Q S 0 [(0, .ref v0), (1, .int v1)] [] := by
  refine k_iconst (v := 0) B (by decide) dJ7_fill_53178_0 ?_
  refine k_istore_n (lst' := [(2, .int 0), (0, .ref v0), (1, .int v1)]) B rfl (by decide) rfl dJ7_fill_53178_1 ?_
  refine k_aload_n B 1 rfl rfl dJ7_fill_53178_2 ?_
  refine k_ilen (v := nI (ln S v0)) B dJ7_fill_53178_3 h1 rfl ?_
  refine k_istore_n (lst' := [(3, .int (nI (ln S v0))), (2, .int 0), (0, .ref v0), (1, .int v1)]) B rfl (by decide) rfl dJ7_fill_53178_4 ?_
  refine k_sub [2, 3, 1, 0] rfl ?_
  exact kk
theorem bJ7_fill_53178_5 (B : Bd p s m args meth c cJ7_fill_53178 4 (wsOf yJ7_fill_53178 cJ7_fill_53178 4 none) RJ7 w none "fill") {v0 : Nat} {v1 : Int32} {v2 : Int32} {v3 : Int32} {Q : State → Prop}  (kt : v3 ≤ v2 → K p l e rJ7_fill_53178 s m args below meth c 4 w 0 0 Q S 20 [] []) (kf : ¬ v3 ≤ v2 → K p l e rJ7_fill_53178 s m args below meth c 4 w 0 0 Q S 10 [(0, .ref v0), (1, .int v1), (2, .int v2), (3, .int v3)] []) : K p l e rJ7_fill_53178 s m args below meth c 4 w 0 0 Q S 5 [(0, .ref v0), (1, .int v1), (2, .int v2), (3, .int v3)] [] := by
  refine k_iload_n B 2 rfl rfl dJ7_fill_53178_5 ?_
  refine k_iload_n B 3 rfl rfl dJ7_fill_53178_6 ?_
  refine k_icmp_ge (tgt := 20) B dJ7_fill_53178_7 (by decide) (fun c => ?_) (fun c => ?_)
  · refine k_sub [] rfl ?_
    exact kt c
  · exact kf c
theorem bJ7_fill_53178_10 (B : Bd p s m args meth c cJ7_fill_53178 4 (wsOf yJ7_fill_53178 cJ7_fill_53178 4 none) RJ7 w none "fill") {v0 : Nat} {v1 : Int32} {v2 : Int32} {v3 : Int32} {Q : State → Prop} (h1 : kd S v0 = 21) (h2 : vp_in v2 (ln S v0)) (kk : K p l e rJ7_fill_53178 s m args below meth c 4 w 0 0 Q (sRI S v0 (va_up (rI S v0) v2.toNatClampNeg v1)) 5 [(0, .ref v0), (1, .int v1), (2, .int (v2 + 1)), (3, .int v3)] []) : K p l e rJ7_fill_53178 s m args below meth c 4 w 0 0 Q S 10 [(0, .ref v0), (1, .int v1), (2, .int v2), (3, .int v3)] [] := by
  refine k_aload_n B 0 rfl rfl dJ7_fill_53178_10 ?_
  refine k_iload_n B 2 rfl rfl dJ7_fill_53178_11 ?_
  refine k_iload_n B 1 rfl rfl dJ7_fill_53178_12 ?_
  refine k_iast (g := rI S v0) (S' := sRI S v0 (va_up (rI S v0) v2.toNatClampNeg v1)) B dJ7_fill_53178_13 h1 h2 rfl rfl ?_
  refine k_iinc (v := v2 + 1) (lst' := [(2, .int (v2 + 1)), (0, .ref v0), (1, .int v1), (3, .int v3)]) B 2 rfl rfl (by decide) rfl dJ7_fill_53178_14 ?_
  refine k_goto (tgt := 5) B dJ7_fill_53178_17 (by decide) ?_
  refine k_sub [1, 2, 0, 3] rfl ?_
  exact kk
theorem bJ7_fill_53178_20 (B : Bd p s m args meth c cJ7_fill_53178 4 (wsOf yJ7_fill_53178 cJ7_fill_53178 4 none) RJ7 w none "fill") {post : St → Prop}  (hq : post S) : K p l e rJ7_fill_53178 s m args below meth c 4 w 0 0 (MQ below (va_Qv post (fun S' t => Hd w S' t.heap) (wA w)) args s 0 0 (wA w)) S 20 [] [] := by
  exact ret_V B rfl dJ7_fill_53178_20 (hq)
end BL
