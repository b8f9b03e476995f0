/-! THE LAW'S WRAPPERS -/
/-- a wrapper's answer: what is thrown, what is answered, the state behind -/
def PW (w : Wd) (x : Nat) (o : Out) : Int32 → St → (Nat → Int64) → Prop := fun j S' f' => j = o.1 ∧ (j = 0 → f' 0 = o.2.1.toInt64) ∧ CX0 w S' x o.2.2
theorem updL_0 {f : Nat → Int64} {v : Int64} : vp_updL f 0 v 0 = v := if_pos rfl
theorem qlRL_7 : Cond.methodLink RL 7 yX11_setRoads ∈ WS := in_t3 53 rfl rfl
theorem qkRL_13 : Cond.classLink RL 13 nIO ∈ WS := in_t3 51 rfl rfl
theorem qkRL_15 : Cond.classLink RL 15 nIA ∈ WS := in_t3 52 rfl rfl
theorem qiX11_setRoads : Cond.instanceMethod yX11_setRoads ∈ WS := in_t3 54 rfl rfl
theorem qeX11_setRoads : Cond.selects RX11 yX11_setRoads yX11_setRoads ∈ WS := in_t3 55 rfl rfl
theorem qcX11_setRoads : Cond.code yX11_setRoads cX11_setRoads 4 (some .int) ∈ WS := in_t3 56 rfl rfl
theorem qlRL_17 : Cond.methodLink RL 17 yX11_setDepot ∈ WS := in_t3 150 rfl rfl
theorem qiX11_setDepot : Cond.instanceMethod yX11_setDepot ∈ WS := in_t3 151 rfl rfl
theorem qeX11_setDepot : Cond.selects RX11 yX11_setDepot yX11_setDepot ∈ WS := in_t3 152 rfl rfl
theorem qcX11_setDepot : Cond.code yX11_setDepot cX11_setDepot 4 (some .int) ∈ WS := in_t3 153 rfl rfl
theorem qlRL_20 : Cond.methodLink RL 20 yX11_addHome ∈ WS := in_t3 163 rfl rfl
theorem qkRL_24 : Cond.classLink RL 24 nIS ∈ WS := in_t3 162 rfl rfl
theorem qiX11_addHome : Cond.instanceMethod yX11_addHome ∈ WS := in_t3 164 rfl rfl
theorem qeX11_addHome : Cond.selects RX11 yX11_addHome yX11_addHome ∈ WS := in_t3 165 rfl rfl
theorem qcX11_addHome : Cond.code yX11_addHome cX11_addHome 4 (some .int) ∈ WS := in_t3 166 rfl rfl
theorem qlRL_26 : Cond.methodLink RL 26 yX11_order ∈ WS := in_t4 41 rfl rfl
theorem qiX11_order : Cond.instanceMethod yX11_order ∈ WS := in_t4 42 rfl rfl
theorem qeX11_order : Cond.selects RX11 yX11_order yX11_order ∈ WS := in_t4 43 rfl rfl
theorem qcX11_order : Cond.code yX11_order cX11_order 5 (some .int) ∈ WS := in_t4 44 rfl rfl
theorem qlRL_30 : Cond.methodLink RL 30 yX11_addLocker ∈ WS := in_t4 49 rfl rfl
theorem qiX11_addLocker : Cond.instanceMethod yX11_addLocker ∈ WS := in_t4 50 rfl rfl
theorem qeX11_addLocker : Cond.selects RX11 yX11_addLocker yX11_addLocker ∈ WS := in_t4 51 rfl rfl
theorem qcX11_addLocker : Cond.code yX11_addLocker cX11_addLocker 6 (some .int) ∈ WS := in_t4 52 rfl rfl
theorem qlRL_34 : Cond.methodLink RL 34 yX11_addVan ∈ WS := in_t4 75 rfl rfl
theorem qiX11_addVan : Cond.instanceMethod yX11_addVan ∈ WS := in_t4 76 rfl rfl
theorem qeX11_addVan : Cond.selects RX11 yX11_addVan yX11_addVan ∈ WS := in_t4 77 rfl rfl
theorem qcX11_addVan : Cond.code yX11_addVan cX11_addVan 4 (some .int) ∈ WS := in_t4 78 rfl rfl
theorem qlRL_37 : Cond.methodLink RL 37 yX11_addParcel ∈ WS := in_t4 115 rfl rfl
theorem qiX11_addParcel : Cond.instanceMethod yX11_addParcel ∈ WS := in_t4 116 rfl rfl
theorem qeX11_addParcel : Cond.selects RX11 yX11_addParcel yX11_addParcel ∈ WS := in_t4 117 rfl rfl
theorem qcX11_addParcel : Cond.code yX11_addParcel cX11_addParcel 6 (some .int) ∈ WS := in_t4 118 rfl rfl
theorem qlRL_40 : Cond.methodLink RL 40 yX11_home ∈ WS := in_t4 197 rfl rfl
theorem qiX11_home : Cond.instanceMethod yX11_home ∈ WS := in_t4 198 rfl rfl
theorem qeX11_home : Cond.selects RX11 yX11_home yX11_home ∈ WS := in_t4 199 rfl rfl
theorem qcX11_home : Cond.code yX11_home cX11_home 3 (some .int) ∈ WS := in_t4 200 rfl rfl
theorem qlRL_43 : Cond.methodLink RL 43 yX11_locker ∈ WS := in_t4 204 rfl rfl
theorem qiX11_locker : Cond.instanceMethod yX11_locker ∈ WS := in_t4 205 rfl rfl
theorem qeX11_locker : Cond.selects RX11 yX11_locker yX11_locker ∈ WS := in_t4 206 rfl rfl
theorem qcX11_locker : Cond.code yX11_locker cX11_locker 3 (some .int) ∈ WS := in_t4 207 rfl rfl
theorem qlRL_46 : Cond.methodLink RL 46 yX11_parcel ∈ WS := in_t4 211 rfl rfl
theorem qiX11_parcel : Cond.instanceMethod yX11_parcel ∈ WS := in_t4 212 rfl rfl
theorem qeX11_parcel : Cond.selects RX11 yX11_parcel yX11_parcel ∈ WS := in_t4 213 rfl rfl
theorem qcX11_parcel : Cond.code yX11_parcel cX11_parcel 3 (some .int) ∈ WS := in_t4 214 rfl rfl
theorem qlRL_49 : Cond.methodLink RL 49 yX11_put ∈ WS := in_t4 218 rfl rfl
theorem qiX11_put : Cond.instanceMethod yX11_put ∈ WS := in_t4 219 rfl rfl
theorem qeX11_put : Cond.selects RX11 yX11_put yX11_put ∈ WS := in_t4 220 rfl rfl
theorem qcX11_put : Cond.code yX11_put cX11_put 7 (some .int) ∈ WS := in_t4 221 rfl rfl
theorem qlRL_52 : Cond.methodLink RL 52 yX11_take ∈ WS := in_t4 235 rfl rfl
theorem qiX11_take : Cond.instanceMethod yX11_take ∈ WS := in_t4 236 rfl rfl
theorem qeX11_take : Cond.selects RX11 yX11_take yX11_take ∈ WS := in_t4 237 rfl rfl
theorem qcX11_take : Cond.code yX11_take cX11_take 5 (some .int) ∈ WS := in_t4 238 rfl rfl
theorem qlRL_56 : Cond.methodLink RL 56 yX11_route ∈ WS := in_t5 3 rfl rfl
theorem qiX11_route : Cond.instanceMethod yX11_route ∈ WS := in_t5 4 rfl rfl
theorem qeX11_route : Cond.selects RX11 yX11_route yX11_route ∈ WS := in_t5 5 rfl rfl
theorem qcX11_route : Cond.code yX11_route cX11_route 3 (some .int) ∈ WS := in_t5 6 rfl rfl
theorem qlRL_59 : Cond.methodLink RL 59 yX11_van ∈ WS := in_t5 14 rfl rfl
theorem qiX11_van : Cond.instanceMethod yX11_van ∈ WS := in_t5 15 rfl rfl
theorem qeX11_van : Cond.selects RX11 yX11_van yX11_van ∈ WS := in_t5 16 rfl rfl
theorem qcX11_van : Cond.code yX11_van cX11_van 3 (some .int) ∈ WS := in_t5 17 rfl rfl
theorem qlRL_62 : Cond.methodLink RL 62 yX11_stop ∈ WS := in_t5 21 rfl rfl
theorem qiX11_stop : Cond.instanceMethod yX11_stop ∈ WS := in_t5 22 rfl rfl
theorem qeX11_stop : Cond.selects RX11 yX11_stop yX11_stop ∈ WS := in_t5 23 rfl rfl
theorem qcX11_stop : Cond.code yX11_stop cX11_stop 6 (some .int) ∈ WS := in_t5 24 rfl rfl
theorem qlRL_65 : Cond.methodLink RL 65 yX11_adds ∈ WS := in_t5 29 rfl rfl
theorem qiX11_adds : Cond.instanceMethod yX11_adds ∈ WS := in_t5 30 rfl rfl
theorem qeX11_adds : Cond.selects RX11 yX11_adds yX11_adds ∈ WS := in_t5 31 rfl rfl
theorem qcX11_adds : Cond.code yX11_adds cX11_adds 4 (some .int) ∈ WS := in_t5 32 rfl rfl
theorem qlRL_68 : Cond.methodLink RL 68 yX11_cheapest ∈ WS := in_t5 36 rfl rfl
theorem qiX11_cheapest : Cond.instanceMethod yX11_cheapest ∈ WS := in_t5 37 rfl rfl
theorem qeX11_cheapest : Cond.selects RX11 yX11_cheapest yX11_cheapest ∈ WS := in_t5 38 rfl rfl
theorem qcX11_cheapest : Cond.code yX11_cheapest cX11_cheapest 3 (some .int) ∈ WS := in_t5 39 rfl rfl
theorem qlRL_71 : Cond.methodLink RL 71 yX11_improve ∈ WS := in_t5 43 rfl rfl
theorem qiX11_improve : Cond.instanceMethod yX11_improve ∈ WS := in_t5 44 rfl rfl
theorem qeX11_improve : Cond.selects RX11 yX11_improve yX11_improve ∈ WS := in_t5 45 rfl rfl
theorem qcX11_improve : Cond.code yX11_improve cX11_improve 10 (some .int) ∈ WS := in_t5 46 rfl rfl
theorem qlRL_74 : Cond.methodLink RL 74 yX11_count ∈ WS := in_t5 54 rfl rfl
theorem qiX11_count : Cond.instanceMethod yX11_count ∈ WS := in_t5 55 rfl rfl
theorem qeX11_count : Cond.selects RX11 yX11_count yX11_count ∈ WS := in_t5 56 rfl rfl
theorem qcX11_count : Cond.code yX11_count cX11_count 2 (some .int) ∈ WS := in_t5 57 rfl rfl
theorem qlRL_77 : Cond.methodLink RL 77 yX11_foresee ∈ WS := in_t5 61 rfl rfl
theorem qiX11_foresee : Cond.instanceMethod yX11_foresee ∈ WS := in_t5 62 rfl rfl
theorem qeX11_foresee : Cond.selects RX11 yX11_foresee yX11_foresee ∈ WS := in_t5 63 rfl rfl
theorem qcX11_foresee : Cond.code yX11_foresee cX11_foresee 4 (some .int) ∈ WS := in_t5 64 rfl rfl
theorem qlRL_80 : Cond.methodLink RL 80 yX11_hour ∈ WS := in_t5 93 rfl rfl
theorem qiX11_hour : Cond.instanceMethod yX11_hour ∈ WS := in_t5 94 rfl rfl
theorem qeX11_hour : Cond.selects RX11 yX11_hour yX11_hour ∈ WS := in_t5 95 rfl rfl
theorem qcX11_hour : Cond.code yX11_hour cX11_hour 7 (some .int) ∈ WS := in_t5 96 rfl rfl
theorem dL_setRoads_0 : decode cL_setRoads 0 = .ok (.aload_n 3, 1) := by decide +kernel
theorem dL_setRoads_1 : decode cL_setRoads 1 = .ok (.iconst 0, 1) := by decide +kernel
theorem dL_setRoads_2 : decode cL_setRoads 2 = .ok (.aload_n 0, 1) := by decide +kernel
theorem dL_setRoads_3 : decode cL_setRoads 3 = .ok (.iload_n 1, 1) := by decide +kernel
theorem dL_setRoads_4 : decode cL_setRoads 4 = .ok (.iload_n 2, 1) := by decide +kernel
theorem dL_setRoads_5 : decode cL_setRoads 5 = .ok (.invokevirtual 7, 3) := by decide +kernel
theorem dL_setRoads_8 : decode cL_setRoads 8 = .ok (.i2l, 1) := by decide +kernel
theorem dL_setRoads_9 : decode cL_setRoads 9 = .ok (.lastore, 1) := by decide +kernel
theorem dL_setRoads_10 : decode cL_setRoads 10 = .ok (.goto 11, 3) := by decide +kernel
theorem dL_setRoads_13 : decode cL_setRoads 13 = .ok (.astore 4, 2) := by decide +kernel
theorem dL_setRoads_15 : decode cL_setRoads 15 = .ok (.iconst 1, 1) := by decide +kernel
theorem dL_setRoads_16 : decode cL_setRoads 16 = .ok (.ireturn, 1) := by decide +kernel
theorem dL_setRoads_17 : decode cL_setRoads 17 = .ok (.astore 4, 2) := by decide +kernel
theorem dL_setRoads_19 : decode cL_setRoads 19 = .ok (.iconst 2, 1) := by decide +kernel
theorem dL_setRoads_20 : decode cL_setRoads 20 = .ok (.ireturn, 1) := by decide +kernel
theorem dL_setRoads_21 : decode cL_setRoads 21 = .ok (.iconst 0, 1) := by decide +kernel
theorem dL_setRoads_22 : decode cL_setRoads 22 = .ok (.ireturn, 1) := by decide +kernel
theorem dL_setDepot_0 : decode cL_setDepot 0 = .ok (.aload_n 3, 1) := by decide +kernel
theorem dL_setDepot_1 : decode cL_setDepot 1 = .ok (.iconst 0, 1) := by decide +kernel
theorem dL_setDepot_2 : decode cL_setDepot 2 = .ok (.aload_n 0, 1) := by decide +kernel
theorem dL_setDepot_3 : decode cL_setDepot 3 = .ok (.iload_n 1, 1) := by decide +kernel
theorem dL_setDepot_4 : decode cL_setDepot 4 = .ok (.iload_n 2, 1) := by decide +kernel
theorem dL_setDepot_5 : decode cL_setDepot 5 = .ok (.invokevirtual 17, 3) := by decide +kernel
theorem dL_setDepot_8 : decode cL_setDepot 8 = .ok (.i2l, 1) := by decide +kernel
theorem dL_setDepot_9 : decode cL_setDepot 9 = .ok (.lastore, 1) := by decide +kernel
theorem dL_setDepot_10 : decode cL_setDepot 10 = .ok (.goto 7, 3) := by decide +kernel
theorem dL_setDepot_13 : decode cL_setDepot 13 = .ok (.astore 4, 2) := by decide +kernel
theorem dL_setDepot_15 : decode cL_setDepot 15 = .ok (.iconst 1, 1) := by decide +kernel
theorem dL_setDepot_16 : decode cL_setDepot 16 = .ok (.ireturn, 1) := by decide +kernel
theorem dL_setDepot_17 : decode cL_setDepot 17 = .ok (.iconst 0, 1) := by decide +kernel
theorem dL_setDepot_18 : decode cL_setDepot 18 = .ok (.ireturn, 1) := by decide +kernel
theorem dL_addHome_0 : decode cL_addHome 0 = .ok (.aload 4, 2) := by decide +kernel
theorem dL_addHome_2 : decode cL_addHome 2 = .ok (.iconst 0, 1) := by decide +kernel
theorem dL_addHome_3 : decode cL_addHome 3 = .ok (.aload_n 0, 1) := by decide +kernel
theorem dL_addHome_4 : decode cL_addHome 4 = .ok (.iload_n 1, 1) := by decide +kernel
theorem dL_addHome_5 : decode cL_addHome 5 = .ok (.iload_n 2, 1) := by decide +kernel
theorem dL_addHome_6 : decode cL_addHome 6 = .ok (.iload_n 3, 1) := by decide +kernel
theorem dL_addHome_7 : decode cL_addHome 7 = .ok (.invokevirtual 20, 3) := by decide +kernel
theorem dL_addHome_10 : decode cL_addHome 10 = .ok (.i2l, 1) := by decide +kernel
theorem dL_addHome_11 : decode cL_addHome 11 = .ok (.lastore, 1) := by decide +kernel
theorem dL_addHome_12 : decode cL_addHome 12 = .ok (.goto 11, 3) := by decide +kernel
theorem dL_addHome_15 : decode cL_addHome 15 = .ok (.astore 5, 2) := by decide +kernel
theorem dL_addHome_17 : decode cL_addHome 17 = .ok (.iconst 1, 1) := by decide +kernel
theorem dL_addHome_18 : decode cL_addHome 18 = .ok (.ireturn, 1) := by decide +kernel
theorem dL_addHome_19 : decode cL_addHome 19 = .ok (.astore 5, 2) := by decide +kernel
theorem dL_addHome_21 : decode cL_addHome 21 = .ok (.iconst 2, 1) := by decide +kernel
theorem dL_addHome_22 : decode cL_addHome 22 = .ok (.ireturn, 1) := by decide +kernel
theorem dL_addHome_23 : decode cL_addHome 23 = .ok (.iconst 0, 1) := by decide +kernel
theorem dL_addHome_24 : decode cL_addHome 24 = .ok (.ireturn, 1) := by decide +kernel
theorem dL_order_0 : decode cL_order 0 = .ok (.aload 4, 2) := by decide +kernel
theorem dL_order_2 : decode cL_order 2 = .ok (.iconst 0, 1) := by decide +kernel
theorem dL_order_3 : decode cL_order 3 = .ok (.aload_n 0, 1) := by decide +kernel
theorem dL_order_4 : decode cL_order 4 = .ok (.iload_n 1, 1) := by decide +kernel
theorem dL_order_5 : decode cL_order 5 = .ok (.iload_n 2, 1) := by decide +kernel
theorem dL_order_6 : decode cL_order 6 = .ok (.iload_n 3, 1) := by decide +kernel
theorem dL_order_7 : decode cL_order 7 = .ok (.invokevirtual 26, 3) := by decide +kernel
theorem dL_order_10 : decode cL_order 10 = .ok (.i2l, 1) := by decide +kernel
theorem dL_order_11 : decode cL_order 11 = .ok (.lastore, 1) := by decide +kernel
theorem dL_order_12 : decode cL_order 12 = .ok (.goto 15, 3) := by decide +kernel
theorem dL_order_15 : decode cL_order 15 = .ok (.astore 5, 2) := by decide +kernel
theorem dL_order_17 : decode cL_order 17 = .ok (.iconst 1, 1) := by decide +kernel
theorem dL_order_18 : decode cL_order 18 = .ok (.ireturn, 1) := by decide +kernel
theorem dL_order_19 : decode cL_order 19 = .ok (.astore 5, 2) := by decide +kernel
theorem dL_order_21 : decode cL_order 21 = .ok (.iconst 2, 1) := by decide +kernel
theorem dL_order_22 : decode cL_order 22 = .ok (.ireturn, 1) := by decide +kernel
theorem dL_order_23 : decode cL_order 23 = .ok (.astore 5, 2) := by decide +kernel
theorem dL_order_25 : decode cL_order 25 = .ok (.iconst 3, 1) := by decide +kernel
theorem dL_order_26 : decode cL_order 26 = .ok (.ireturn, 1) := by decide +kernel
theorem dL_order_27 : decode cL_order 27 = .ok (.iconst 0, 1) := by decide +kernel
theorem dL_order_28 : decode cL_order 28 = .ok (.ireturn, 1) := by decide +kernel
theorem dL_addLocker_0 : decode cL_addLocker 0 = .ok (.aload 6, 2) := by decide +kernel
theorem dL_addLocker_2 : decode cL_addLocker 2 = .ok (.iconst 0, 1) := by decide +kernel
theorem dL_addLocker_3 : decode cL_addLocker 3 = .ok (.aload_n 0, 1) := by decide +kernel
theorem dL_addLocker_4 : decode cL_addLocker 4 = .ok (.iload_n 1, 1) := by decide +kernel
theorem dL_addLocker_5 : decode cL_addLocker 5 = .ok (.iload_n 2, 1) := by decide +kernel
theorem dL_addLocker_6 : decode cL_addLocker 6 = .ok (.iload_n 3, 1) := by decide +kernel
theorem dL_addLocker_7 : decode cL_addLocker 7 = .ok (.iload 4, 2) := by decide +kernel
theorem dL_addLocker_9 : decode cL_addLocker 9 = .ok (.iload 5, 2) := by decide +kernel
theorem dL_addLocker_11 : decode cL_addLocker 11 = .ok (.invokevirtual 30, 3) := by decide +kernel
theorem dL_addLocker_14 : decode cL_addLocker 14 = .ok (.i2l, 1) := by decide +kernel
theorem dL_addLocker_15 : decode cL_addLocker 15 = .ok (.lastore, 1) := by decide +kernel
theorem dL_addLocker_16 : decode cL_addLocker 16 = .ok (.goto 11, 3) := by decide +kernel
theorem dL_addLocker_19 : decode cL_addLocker 19 = .ok (.astore 7, 2) := by decide +kernel
theorem dL_addLocker_21 : decode cL_addLocker 21 = .ok (.iconst 1, 1) := by decide +kernel
theorem dL_addLocker_22 : decode cL_addLocker 22 = .ok (.ireturn, 1) := by decide +kernel
theorem dL_addLocker_23 : decode cL_addLocker 23 = .ok (.astore 7, 2) := by decide +kernel
theorem dL_addLocker_25 : decode cL_addLocker 25 = .ok (.iconst 2, 1) := by decide +kernel
theorem dL_addLocker_26 : decode cL_addLocker 26 = .ok (.ireturn, 1) := by decide +kernel
theorem dL_addLocker_27 : decode cL_addLocker 27 = .ok (.iconst 0, 1) := by decide +kernel
theorem dL_addLocker_28 : decode cL_addLocker 28 = .ok (.ireturn, 1) := by decide +kernel
theorem dL_addVan_0 : decode cL_addVan 0 = .ok (.aload 4, 2) := by decide +kernel
theorem dL_addVan_2 : decode cL_addVan 2 = .ok (.iconst 0, 1) := by decide +kernel
theorem dL_addVan_3 : decode cL_addVan 3 = .ok (.aload_n 0, 1) := by decide +kernel
theorem dL_addVan_4 : decode cL_addVan 4 = .ok (.iload_n 1, 1) := by decide +kernel
theorem dL_addVan_5 : decode cL_addVan 5 = .ok (.iload_n 2, 1) := by decide +kernel
theorem dL_addVan_6 : decode cL_addVan 6 = .ok (.iload_n 3, 1) := by decide +kernel
theorem dL_addVan_7 : decode cL_addVan 7 = .ok (.invokevirtual 34, 3) := by decide +kernel
theorem dL_addVan_10 : decode cL_addVan 10 = .ok (.i2l, 1) := by decide +kernel
theorem dL_addVan_11 : decode cL_addVan 11 = .ok (.lastore, 1) := by decide +kernel
theorem dL_addVan_12 : decode cL_addVan 12 = .ok (.goto 11, 3) := by decide +kernel
theorem dL_addVan_15 : decode cL_addVan 15 = .ok (.astore 5, 2) := by decide +kernel
theorem dL_addVan_17 : decode cL_addVan 17 = .ok (.iconst 1, 1) := by decide +kernel
theorem dL_addVan_18 : decode cL_addVan 18 = .ok (.ireturn, 1) := by decide +kernel
theorem dL_addVan_19 : decode cL_addVan 19 = .ok (.astore 5, 2) := by decide +kernel
theorem dL_addVan_21 : decode cL_addVan 21 = .ok (.iconst 2, 1) := by decide +kernel
theorem dL_addVan_22 : decode cL_addVan 22 = .ok (.ireturn, 1) := by decide +kernel
theorem dL_addVan_23 : decode cL_addVan 23 = .ok (.iconst 0, 1) := by decide +kernel
theorem dL_addVan_24 : decode cL_addVan 24 = .ok (.ireturn, 1) := by decide +kernel
theorem dL_addParcel_0 : decode cL_addParcel 0 = .ok (.aload 6, 2) := by decide +kernel
theorem dL_addParcel_2 : decode cL_addParcel 2 = .ok (.iconst 0, 1) := by decide +kernel
theorem dL_addParcel_3 : decode cL_addParcel 3 = .ok (.aload_n 0, 1) := by decide +kernel
theorem dL_addParcel_4 : decode cL_addParcel 4 = .ok (.iload_n 1, 1) := by decide +kernel
theorem dL_addParcel_5 : decode cL_addParcel 5 = .ok (.iload_n 2, 1) := by decide +kernel
theorem dL_addParcel_6 : decode cL_addParcel 6 = .ok (.iload_n 3, 1) := by decide +kernel
theorem dL_addParcel_7 : decode cL_addParcel 7 = .ok (.iload 4, 2) := by decide +kernel
theorem dL_addParcel_9 : decode cL_addParcel 9 = .ok (.iload 5, 2) := by decide +kernel
theorem dL_addParcel_11 : decode cL_addParcel 11 = .ok (.invokevirtual 37, 3) := by decide +kernel
theorem dL_addParcel_14 : decode cL_addParcel 14 = .ok (.i2l, 1) := by decide +kernel
theorem dL_addParcel_15 : decode cL_addParcel 15 = .ok (.lastore, 1) := by decide +kernel
theorem dL_addParcel_16 : decode cL_addParcel 16 = .ok (.goto 15, 3) := by decide +kernel
theorem dL_addParcel_19 : decode cL_addParcel 19 = .ok (.astore 7, 2) := by decide +kernel
theorem dL_addParcel_21 : decode cL_addParcel 21 = .ok (.iconst 1, 1) := by decide +kernel
theorem dL_addParcel_22 : decode cL_addParcel 22 = .ok (.ireturn, 1) := by decide +kernel
theorem dL_addParcel_23 : decode cL_addParcel 23 = .ok (.astore 7, 2) := by decide +kernel
theorem dL_addParcel_25 : decode cL_addParcel 25 = .ok (.iconst 2, 1) := by decide +kernel
theorem dL_addParcel_26 : decode cL_addParcel 26 = .ok (.ireturn, 1) := by decide +kernel
theorem dL_addParcel_27 : decode cL_addParcel 27 = .ok (.astore 7, 2) := by decide +kernel
theorem dL_addParcel_29 : decode cL_addParcel 29 = .ok (.iconst 3, 1) := by decide +kernel
theorem dL_addParcel_30 : decode cL_addParcel 30 = .ok (.ireturn, 1) := by decide +kernel
theorem dL_addParcel_31 : decode cL_addParcel 31 = .ok (.iconst 0, 1) := by decide +kernel
theorem dL_addParcel_32 : decode cL_addParcel 32 = .ok (.ireturn, 1) := by decide +kernel
theorem dL_home_0 : decode cL_home 0 = .ok (.aload_n 3, 1) := by decide +kernel
theorem dL_home_1 : decode cL_home 1 = .ok (.iconst 0, 1) := by decide +kernel
theorem dL_home_2 : decode cL_home 2 = .ok (.aload_n 0, 1) := by decide +kernel
theorem dL_home_3 : decode cL_home 3 = .ok (.iload_n 1, 1) := by decide +kernel
theorem dL_home_4 : decode cL_home 4 = .ok (.iload_n 2, 1) := by decide +kernel
theorem dL_home_5 : decode cL_home 5 = .ok (.invokevirtual 40, 3) := by decide +kernel
theorem dL_home_8 : decode cL_home 8 = .ok (.i2l, 1) := by decide +kernel
theorem dL_home_9 : decode cL_home 9 = .ok (.lastore, 1) := by decide +kernel
theorem dL_home_10 : decode cL_home 10 = .ok (.goto 7, 3) := by decide +kernel
theorem dL_home_13 : decode cL_home 13 = .ok (.astore 4, 2) := by decide +kernel
theorem dL_home_15 : decode cL_home 15 = .ok (.iconst 1, 1) := by decide +kernel
theorem dL_home_16 : decode cL_home 16 = .ok (.ireturn, 1) := by decide +kernel
theorem dL_home_17 : decode cL_home 17 = .ok (.iconst 0, 1) := by decide +kernel
theorem dL_home_18 : decode cL_home 18 = .ok (.ireturn, 1) := by decide +kernel
theorem dL_locker_0 : decode cL_locker 0 = .ok (.aload_n 3, 1) := by decide +kernel
theorem dL_locker_1 : decode cL_locker 1 = .ok (.iconst 0, 1) := by decide +kernel
theorem dL_locker_2 : decode cL_locker 2 = .ok (.aload_n 0, 1) := by decide +kernel
theorem dL_locker_3 : decode cL_locker 3 = .ok (.iload_n 1, 1) := by decide +kernel
theorem dL_locker_4 : decode cL_locker 4 = .ok (.iload_n 2, 1) := by decide +kernel
theorem dL_locker_5 : decode cL_locker 5 = .ok (.invokevirtual 43, 3) := by decide +kernel
theorem dL_locker_8 : decode cL_locker 8 = .ok (.i2l, 1) := by decide +kernel
theorem dL_locker_9 : decode cL_locker 9 = .ok (.lastore, 1) := by decide +kernel
theorem dL_locker_10 : decode cL_locker 10 = .ok (.goto 7, 3) := by decide +kernel
theorem dL_locker_13 : decode cL_locker 13 = .ok (.astore 4, 2) := by decide +kernel
theorem dL_locker_15 : decode cL_locker 15 = .ok (.iconst 1, 1) := by decide +kernel
theorem dL_locker_16 : decode cL_locker 16 = .ok (.ireturn, 1) := by decide +kernel
theorem dL_locker_17 : decode cL_locker 17 = .ok (.iconst 0, 1) := by decide +kernel
theorem dL_locker_18 : decode cL_locker 18 = .ok (.ireturn, 1) := by decide +kernel
theorem dL_parcel_0 : decode cL_parcel 0 = .ok (.aload_n 3, 1) := by decide +kernel
theorem dL_parcel_1 : decode cL_parcel 1 = .ok (.iconst 0, 1) := by decide +kernel
theorem dL_parcel_2 : decode cL_parcel 2 = .ok (.aload_n 0, 1) := by decide +kernel
theorem dL_parcel_3 : decode cL_parcel 3 = .ok (.iload_n 1, 1) := by decide +kernel
theorem dL_parcel_4 : decode cL_parcel 4 = .ok (.iload_n 2, 1) := by decide +kernel
theorem dL_parcel_5 : decode cL_parcel 5 = .ok (.invokevirtual 46, 3) := by decide +kernel
theorem dL_parcel_8 : decode cL_parcel 8 = .ok (.i2l, 1) := by decide +kernel
theorem dL_parcel_9 : decode cL_parcel 9 = .ok (.lastore, 1) := by decide +kernel
theorem dL_parcel_10 : decode cL_parcel 10 = .ok (.goto 7, 3) := by decide +kernel
theorem dL_parcel_13 : decode cL_parcel 13 = .ok (.astore 4, 2) := by decide +kernel
theorem dL_parcel_15 : decode cL_parcel 15 = .ok (.iconst 1, 1) := by decide +kernel
theorem dL_parcel_16 : decode cL_parcel 16 = .ok (.ireturn, 1) := by decide +kernel
theorem dL_parcel_17 : decode cL_parcel 17 = .ok (.iconst 0, 1) := by decide +kernel
theorem dL_parcel_18 : decode cL_parcel 18 = .ok (.ireturn, 1) := by decide +kernel
theorem dL_put_0 : decode cL_put 0 = .ok (.aload 4, 2) := by decide +kernel
theorem dL_put_2 : decode cL_put 2 = .ok (.iconst 0, 1) := by decide +kernel
theorem dL_put_3 : decode cL_put 3 = .ok (.aload_n 0, 1) := by decide +kernel
theorem dL_put_4 : decode cL_put 4 = .ok (.iload_n 1, 1) := by decide +kernel
theorem dL_put_5 : decode cL_put 5 = .ok (.iload_n 2, 1) := by decide +kernel
theorem dL_put_6 : decode cL_put 6 = .ok (.iload_n 3, 1) := by decide +kernel
theorem dL_put_7 : decode cL_put 7 = .ok (.invokevirtual 49, 3) := by decide +kernel
theorem dL_put_10 : decode cL_put 10 = .ok (.i2l, 1) := by decide +kernel
theorem dL_put_11 : decode cL_put 11 = .ok (.lastore, 1) := by decide +kernel
theorem dL_put_12 : decode cL_put 12 = .ok (.goto 11, 3) := by decide +kernel
theorem dL_put_15 : decode cL_put 15 = .ok (.astore 5, 2) := by decide +kernel
theorem dL_put_17 : decode cL_put 17 = .ok (.iconst 1, 1) := by decide +kernel
theorem dL_put_18 : decode cL_put 18 = .ok (.ireturn, 1) := by decide +kernel
theorem dL_put_19 : decode cL_put 19 = .ok (.astore 5, 2) := by decide +kernel
theorem dL_put_21 : decode cL_put 21 = .ok (.iconst 2, 1) := by decide +kernel
theorem dL_put_22 : decode cL_put 22 = .ok (.ireturn, 1) := by decide +kernel
theorem dL_put_23 : decode cL_put 23 = .ok (.iconst 0, 1) := by decide +kernel
theorem dL_put_24 : decode cL_put 24 = .ok (.ireturn, 1) := by decide +kernel
theorem dL_take_0 : decode cL_take 0 = .ok (.aload_n 2, 1) := by decide +kernel
theorem dL_take_1 : decode cL_take 1 = .ok (.iconst 0, 1) := by decide +kernel
theorem dL_take_2 : decode cL_take 2 = .ok (.aload_n 0, 1) := by decide +kernel
theorem dL_take_3 : decode cL_take 3 = .ok (.iload_n 1, 1) := by decide +kernel
theorem dL_take_4 : decode cL_take 4 = .ok (.invokevirtual 52, 3) := by decide +kernel
theorem dL_take_7 : decode cL_take 7 = .ok (.i2l, 1) := by decide +kernel
theorem dL_take_8 : decode cL_take 8 = .ok (.lastore, 1) := by decide +kernel
theorem dL_take_9 : decode cL_take 9 = .ok (.goto 9, 3) := by decide +kernel
theorem dL_take_12 : decode cL_take 12 = .ok (.astore_n 3, 1) := by decide +kernel
theorem dL_take_13 : decode cL_take 13 = .ok (.iconst 1, 1) := by decide +kernel
theorem dL_take_14 : decode cL_take 14 = .ok (.ireturn, 1) := by decide +kernel
theorem dL_take_15 : decode cL_take 15 = .ok (.astore_n 3, 1) := by decide +kernel
theorem dL_take_16 : decode cL_take 16 = .ok (.iconst 2, 1) := by decide +kernel
theorem dL_take_17 : decode cL_take 17 = .ok (.ireturn, 1) := by decide +kernel
theorem dL_take_18 : decode cL_take 18 = .ok (.iconst 0, 1) := by decide +kernel
theorem dL_take_19 : decode cL_take 19 = .ok (.ireturn, 1) := by decide +kernel
theorem dL_route_0 : decode cL_route 0 = .ok (.aload_n 3, 1) := by decide +kernel
theorem dL_route_1 : decode cL_route 1 = .ok (.iconst 0, 1) := by decide +kernel
theorem dL_route_2 : decode cL_route 2 = .ok (.aload_n 0, 1) := by decide +kernel
theorem dL_route_3 : decode cL_route 3 = .ok (.iload_n 1, 1) := by decide +kernel
theorem dL_route_4 : decode cL_route 4 = .ok (.iload_n 2, 1) := by decide +kernel
theorem dL_route_5 : decode cL_route 5 = .ok (.invokevirtual 56, 3) := by decide +kernel
theorem dL_route_8 : decode cL_route 8 = .ok (.i2l, 1) := by decide +kernel
theorem dL_route_9 : decode cL_route 9 = .ok (.lastore, 1) := by decide +kernel
theorem dL_route_10 : decode cL_route 10 = .ok (.goto 7, 3) := by decide +kernel
theorem dL_route_13 : decode cL_route 13 = .ok (.astore 4, 2) := by decide +kernel
theorem dL_route_15 : decode cL_route 15 = .ok (.iconst 1, 1) := by decide +kernel
theorem dL_route_16 : decode cL_route 16 = .ok (.ireturn, 1) := by decide +kernel
theorem dL_route_17 : decode cL_route 17 = .ok (.iconst 0, 1) := by decide +kernel
theorem dL_route_18 : decode cL_route 18 = .ok (.ireturn, 1) := by decide +kernel
theorem dL_van_0 : decode cL_van 0 = .ok (.aload_n 3, 1) := by decide +kernel
theorem dL_van_1 : decode cL_van 1 = .ok (.iconst 0, 1) := by decide +kernel
theorem dL_van_2 : decode cL_van 2 = .ok (.aload_n 0, 1) := by decide +kernel
theorem dL_van_3 : decode cL_van 3 = .ok (.iload_n 1, 1) := by decide +kernel
theorem dL_van_4 : decode cL_van 4 = .ok (.iload_n 2, 1) := by decide +kernel
theorem dL_van_5 : decode cL_van 5 = .ok (.invokevirtual 59, 3) := by decide +kernel
theorem dL_van_8 : decode cL_van 8 = .ok (.i2l, 1) := by decide +kernel
theorem dL_van_9 : decode cL_van 9 = .ok (.lastore, 1) := by decide +kernel
theorem dL_van_10 : decode cL_van 10 = .ok (.goto 7, 3) := by decide +kernel
theorem dL_van_13 : decode cL_van 13 = .ok (.astore 4, 2) := by decide +kernel
theorem dL_van_15 : decode cL_van 15 = .ok (.iconst 1, 1) := by decide +kernel
theorem dL_van_16 : decode cL_van 16 = .ok (.ireturn, 1) := by decide +kernel
theorem dL_van_17 : decode cL_van 17 = .ok (.iconst 0, 1) := by decide +kernel
theorem dL_van_18 : decode cL_van 18 = .ok (.ireturn, 1) := by decide +kernel
theorem dL_stop_0 : decode cL_stop 0 = .ok (.aload 4, 2) := by decide +kernel
theorem dL_stop_2 : decode cL_stop 2 = .ok (.iconst 0, 1) := by decide +kernel
theorem dL_stop_3 : decode cL_stop 3 = .ok (.aload_n 0, 1) := by decide +kernel
theorem dL_stop_4 : decode cL_stop 4 = .ok (.iload_n 1, 1) := by decide +kernel
theorem dL_stop_5 : decode cL_stop 5 = .ok (.iload_n 2, 1) := by decide +kernel
theorem dL_stop_6 : decode cL_stop 6 = .ok (.iload_n 3, 1) := by decide +kernel
theorem dL_stop_7 : decode cL_stop 7 = .ok (.invokevirtual 62, 3) := by decide +kernel
theorem dL_stop_10 : decode cL_stop 10 = .ok (.i2l, 1) := by decide +kernel
theorem dL_stop_11 : decode cL_stop 11 = .ok (.lastore, 1) := by decide +kernel
theorem dL_stop_12 : decode cL_stop 12 = .ok (.goto 7, 3) := by decide +kernel
theorem dL_stop_15 : decode cL_stop 15 = .ok (.astore 5, 2) := by decide +kernel
theorem dL_stop_17 : decode cL_stop 17 = .ok (.iconst 1, 1) := by decide +kernel
theorem dL_stop_18 : decode cL_stop 18 = .ok (.ireturn, 1) := by decide +kernel
theorem dL_stop_19 : decode cL_stop 19 = .ok (.iconst 0, 1) := by decide +kernel
theorem dL_stop_20 : decode cL_stop 20 = .ok (.ireturn, 1) := by decide +kernel
theorem dL_adds_0 : decode cL_adds 0 = .ok (.aload 4, 2) := by decide +kernel
theorem dL_adds_2 : decode cL_adds 2 = .ok (.iconst 0, 1) := by decide +kernel
theorem dL_adds_3 : decode cL_adds 3 = .ok (.aload_n 0, 1) := by decide +kernel
theorem dL_adds_4 : decode cL_adds 4 = .ok (.iload_n 1, 1) := by decide +kernel
theorem dL_adds_5 : decode cL_adds 5 = .ok (.iload_n 2, 1) := by decide +kernel
theorem dL_adds_6 : decode cL_adds 6 = .ok (.iload_n 3, 1) := by decide +kernel
theorem dL_adds_7 : decode cL_adds 7 = .ok (.invokevirtual 65, 3) := by decide +kernel
theorem dL_adds_10 : decode cL_adds 10 = .ok (.i2l, 1) := by decide +kernel
theorem dL_adds_11 : decode cL_adds 11 = .ok (.lastore, 1) := by decide +kernel
theorem dL_adds_12 : decode cL_adds 12 = .ok (.goto 7, 3) := by decide +kernel
theorem dL_adds_15 : decode cL_adds 15 = .ok (.astore 5, 2) := by decide +kernel
theorem dL_adds_17 : decode cL_adds 17 = .ok (.iconst 1, 1) := by decide +kernel
theorem dL_adds_18 : decode cL_adds 18 = .ok (.ireturn, 1) := by decide +kernel
theorem dL_adds_19 : decode cL_adds 19 = .ok (.iconst 0, 1) := by decide +kernel
theorem dL_adds_20 : decode cL_adds 20 = .ok (.ireturn, 1) := by decide +kernel
theorem dL_cheapest_0 : decode cL_cheapest 0 = .ok (.aload_n 2, 1) := by decide +kernel
theorem dL_cheapest_1 : decode cL_cheapest 1 = .ok (.iconst 0, 1) := by decide +kernel
theorem dL_cheapest_2 : decode cL_cheapest 2 = .ok (.aload_n 0, 1) := by decide +kernel
theorem dL_cheapest_3 : decode cL_cheapest 3 = .ok (.iload_n 1, 1) := by decide +kernel
theorem dL_cheapest_4 : decode cL_cheapest 4 = .ok (.invokevirtual 68, 3) := by decide +kernel
theorem dL_cheapest_7 : decode cL_cheapest 7 = .ok (.i2l, 1) := by decide +kernel
theorem dL_cheapest_8 : decode cL_cheapest 8 = .ok (.lastore, 1) := by decide +kernel
theorem dL_cheapest_9 : decode cL_cheapest 9 = .ok (.goto 6, 3) := by decide +kernel
theorem dL_cheapest_12 : decode cL_cheapest 12 = .ok (.astore_n 3, 1) := by decide +kernel
theorem dL_cheapest_13 : decode cL_cheapest 13 = .ok (.iconst 1, 1) := by decide +kernel
theorem dL_cheapest_14 : decode cL_cheapest 14 = .ok (.ireturn, 1) := by decide +kernel
theorem dL_cheapest_15 : decode cL_cheapest 15 = .ok (.iconst 0, 1) := by decide +kernel
theorem dL_cheapest_16 : decode cL_cheapest 16 = .ok (.ireturn, 1) := by decide +kernel
theorem dL_improve_0 : decode cL_improve 0 = .ok (.aload_n 2, 1) := by decide +kernel
theorem dL_improve_1 : decode cL_improve 1 = .ok (.iconst 0, 1) := by decide +kernel
theorem dL_improve_2 : decode cL_improve 2 = .ok (.aload_n 0, 1) := by decide +kernel
theorem dL_improve_3 : decode cL_improve 3 = .ok (.iload_n 1, 1) := by decide +kernel
theorem dL_improve_4 : decode cL_improve 4 = .ok (.invokevirtual 71, 3) := by decide +kernel
theorem dL_improve_7 : decode cL_improve 7 = .ok (.i2l, 1) := by decide +kernel
theorem dL_improve_8 : decode cL_improve 8 = .ok (.lastore, 1) := by decide +kernel
theorem dL_improve_9 : decode cL_improve 9 = .ok (.goto 6, 3) := by decide +kernel
theorem dL_improve_12 : decode cL_improve 12 = .ok (.astore_n 3, 1) := by decide +kernel
theorem dL_improve_13 : decode cL_improve 13 = .ok (.iconst 1, 1) := by decide +kernel
theorem dL_improve_14 : decode cL_improve 14 = .ok (.ireturn, 1) := by decide +kernel
theorem dL_improve_15 : decode cL_improve 15 = .ok (.iconst 0, 1) := by decide +kernel
theorem dL_improve_16 : decode cL_improve 16 = .ok (.ireturn, 1) := by decide +kernel
theorem dL_count_0 : decode cL_count 0 = .ok (.aload_n 2, 1) := by decide +kernel
theorem dL_count_1 : decode cL_count 1 = .ok (.iconst 0, 1) := by decide +kernel
theorem dL_count_2 : decode cL_count 2 = .ok (.aload_n 0, 1) := by decide +kernel
theorem dL_count_3 : decode cL_count 3 = .ok (.iload_n 1, 1) := by decide +kernel
theorem dL_count_4 : decode cL_count 4 = .ok (.invokevirtual 74, 3) := by decide +kernel
theorem dL_count_7 : decode cL_count 7 = .ok (.i2l, 1) := by decide +kernel
theorem dL_count_8 : decode cL_count 8 = .ok (.lastore, 1) := by decide +kernel
theorem dL_count_9 : decode cL_count 9 = .ok (.goto 6, 3) := by decide +kernel
theorem dL_count_12 : decode cL_count 12 = .ok (.astore_n 3, 1) := by decide +kernel
theorem dL_count_13 : decode cL_count 13 = .ok (.iconst 1, 1) := by decide +kernel
theorem dL_count_14 : decode cL_count 14 = .ok (.ireturn, 1) := by decide +kernel
theorem dL_count_15 : decode cL_count 15 = .ok (.iconst 0, 1) := by decide +kernel
theorem dL_count_16 : decode cL_count 16 = .ok (.ireturn, 1) := by decide +kernel
theorem dL_foresee_0 : decode cL_foresee 0 = .ok (.aload_n 2, 1) := by decide +kernel
theorem dL_foresee_1 : decode cL_foresee 1 = .ok (.iconst 0, 1) := by decide +kernel
theorem dL_foresee_2 : decode cL_foresee 2 = .ok (.aload_n 0, 1) := by decide +kernel
theorem dL_foresee_3 : decode cL_foresee 3 = .ok (.iload_n 1, 1) := by decide +kernel
theorem dL_foresee_4 : decode cL_foresee 4 = .ok (.invokevirtual 77, 3) := by decide +kernel
theorem dL_foresee_7 : decode cL_foresee 7 = .ok (.i2l, 1) := by decide +kernel
theorem dL_foresee_8 : decode cL_foresee 8 = .ok (.lastore, 1) := by decide +kernel
theorem dL_foresee_9 : decode cL_foresee 9 = .ok (.goto 6, 3) := by decide +kernel
theorem dL_foresee_12 : decode cL_foresee 12 = .ok (.astore_n 3, 1) := by decide +kernel
theorem dL_foresee_13 : decode cL_foresee 13 = .ok (.iconst 1, 1) := by decide +kernel
theorem dL_foresee_14 : decode cL_foresee 14 = .ok (.ireturn, 1) := by decide +kernel
theorem dL_foresee_15 : decode cL_foresee 15 = .ok (.iconst 0, 1) := by decide +kernel
theorem dL_foresee_16 : decode cL_foresee 16 = .ok (.ireturn, 1) := by decide +kernel
theorem dL_hour_0 : decode cL_hour 0 = .ok (.aload_n 2, 1) := by decide +kernel
theorem dL_hour_1 : decode cL_hour 1 = .ok (.iconst 0, 1) := by decide +kernel
theorem dL_hour_2 : decode cL_hour 2 = .ok (.aload_n 0, 1) := by decide +kernel
theorem dL_hour_3 : decode cL_hour 3 = .ok (.iload_n 1, 1) := by decide +kernel
theorem dL_hour_4 : decode cL_hour 4 = .ok (.invokevirtual 80, 3) := by decide +kernel
theorem dL_hour_7 : decode cL_hour 7 = .ok (.i2l, 1) := by decide +kernel
theorem dL_hour_8 : decode cL_hour 8 = .ok (.lastore, 1) := by decide +kernel
theorem dL_hour_9 : decode cL_hour 9 = .ok (.goto 6, 3) := by decide +kernel
theorem dL_hour_12 : decode cL_hour 12 = .ok (.astore_n 3, 1) := by decide +kernel
theorem dL_hour_13 : decode cL_hour 13 = .ok (.iconst 1, 1) := by decide +kernel
theorem dL_hour_14 : decode cL_hour 14 = .ok (.ireturn, 1) := by decide +kernel
theorem dL_hour_15 : decode cL_hour 15 = .ok (.iconst 0, 1) := by decide +kernel
theorem dL_hour_16 : decode cL_hour 16 = .ok (.ireturn, 1) := by decide +kernel
section WR
variable {l : Launch} {w : Wd}
def rL_setRoads : Room := { frames := 9, cells := 2, slots := 12, locals := 181 }
theorem cL_setRoadsW {S : St} {out : Nat} {f : Nat → Int64} {x : Nat} {a0 a1 : Int32} {o : Out} (hk : kd S x = 13) (hc : ConXI l yX11_setRoads (wsOf yX11_setRoads cX11_setRoads 4 (some .int)) rX11_setRoads (wo w out f) S [.ref x, .int a0, .int a1] (CP (wo w out f) x o) (CE (wo w out f) x [nIO, nIA] o)) :
    ConW l yL_setRoads (wsOfH yL_setRoads cL_setRoads 5 (some .int) [(0, 10, 13, 13), (0, 10, 17, 15)]) rL_setRoads w out f S [.ref x, .int a0, .int a1, .ref out] (PW w x o) := by
  refine conW (by decide +kernel) rfl (Nat.le_of_ble_eq_true rfl) (fun p e s m args below meth c B0 hT => ?_)
  have B : Bd p s m args meth c cL_setRoads 5 (wsOfH yL_setRoads cL_setRoads 5 (some .int) [(0, 10, 13, 13), (0, 10, 17, 15)]) RL (wo w out f) (some .int) "setRoads" := B0
  refine k_aload_n B 3 rfl rfl dL_setRoads_0 ?_
  refine k_iconst (v := 0) B (by decide) dL_setRoads_1 ?_
  refine k_aload_n B 0 rfl rfl dL_setRoads_2 ?_
  refine k_iload_n B 1 rfl rfl dL_setRoads_3 ?_
  refine k_iload_n B 2 rfl rfl dL_setRoads_4 ?_
  refine xcallV_I (st := [.int 0, .ref out]) B [.int a0, .int a1] hc (cwV 2 B.1.2.2.2.2 (gVH qlRL_7 qiX11_setRoads qeX11_setRoads qzRX11 qcX11_setRoads) rfl rfl rfl (by decide +kernel) ⟨Nat.le_of_ble_eq_true rfl, Nat.le_of_ble_eq_true rfl⟩) rfl rfl (by decide) hk (Nat.le_of_ble_eq_true rfl) rfl dL_setRoads_5 ⟨Nat.le_of_ble_eq_true rfl, Nat.le_of_ble_eq_true rfl⟩ (fun E ce q9 S' H1 locs1 ls hp g1 g2 g3 g4 g5 g6 => ?_) (fun r S' hp => ?_)
  · obtain ⟨i, e1, e2, e3⟩ := hp
    rcases i with _ | _ | i
    · obtain rfl : nIO = E := Option.some.inj e1
      refine l_catch B hT (pre := []) (x := (⟨0, 10, 13, 13⟩ : ExceptionTableEntry)) (suf := [(⟨0, 10, 17, 15⟩ : ExceptionTableEntry)]) rfl (fun z hz => by cases hz) (by decide) (by decide : (13 : Nat) ≠ 0) (in_ofH qkRL_13) (List.mem_of_getElem? (i := 0) rfl) g1 g2 g3 g4 g5 g6 ?_
      refine k_astore B (Nat.le_of_ble_eq_true rfl) rfl dL_setRoads_13 ?_
      refine k_iconst (v := 1) B (by decide) dL_setRoads_15 ?_
      exact ret_W B0 rfl dL_setRoads_16 (Nat.le_of_ble_eq_true rfl) (Nat.le_of_ble_eq_true rfl) ⟨e2.symm, fun z => absurd z (by decide), e3⟩
    · obtain rfl : nIA = E := Option.some.inj e1
      refine l_catch B hT (pre := [(⟨0, 10, 13, 13⟩ : ExceptionTableEntry)]) (x := (⟨0, 10, 17, 15⟩ : ExceptionTableEntry)) (suf := []) rfl (fun z hz => by
          simp only [List.mem_cons, List.not_mem_nil, or_false] at hz
          rcases hz with rfl
          · exact ⟨(by decide : (13 : Nat) ≠ 0), nIO, in_ofH qkRL_13, List.mem_of_getElem? (i := 2) rfl⟩) (by decide) (by decide : (15 : Nat) ≠ 0) (in_ofH qkRL_15) (List.mem_of_getElem? (i := 1) rfl) g1 g2 g3 g4 g5 g6 ?_
      refine k_astore B (Nat.le_of_ble_eq_true rfl) rfl dL_setRoads_17 ?_
      refine k_iconst (v := 2) B (by decide) dL_setRoads_19 ?_
      exact ret_W B0 rfl dL_setRoads_20 (Nat.le_of_ble_eq_true rfl) (Nat.le_of_ble_eq_true rfl) ⟨e2.symm, fun z => absurd z (by decide), e3⟩
    · exact absurd e1 (by simp)
  · obtain ⟨e1, e2, e3⟩ := hp
    refine k_i2l B dL_setRoads_8 ?_
    refine k_lastO B0 dL_setRoads_9 ?_
    have B1 : Bd p s m args meth c cL_setRoads 5 (wsOfH yL_setRoads cL_setRoads 5 (some .int) [(0, 10, 13, 13), (0, 10, 17, 15)]) RL (wo w out (vp_updL f 0 r.toInt64)) (some .int) "setRoads" := B0
    refine k_goto (tgt := 21) B1 dL_setRoads_10 (by decide) ?_
    refine k_iconst (v := 0) B1 (by decide) dL_setRoads_21 ?_
    exact ret_W B0 rfl dL_setRoads_22 (Nat.le_of_ble_eq_true rfl) (Nat.le_of_ble_eq_true rfl) ⟨e1.symm, fun _ => by rw [e2]; exact updL_0, e3⟩
def rL_setDepot : Room := { frames := 10, cells := 3, slots := 14, locals := 202 }
theorem cL_setDepotW {S : St} {out : Nat} {f : Nat → Int64} {x : Nat} {a0 a1 : Int32} {o : Out} (hk : kd S x = 13) (hc : ConXI l yX11_setDepot (wsOf yX11_setDepot cX11_setDepot 4 (some .int)) rX11_setDepot (wo w out f) S [.ref x, .int a0, .int a1] (CP (wo w out f) x o) (CE (wo w out f) x [nIA] o)) :
    ConW l yL_setDepot (wsOfH yL_setDepot cL_setDepot 5 (some .int) [(0, 10, 13, 15)]) rL_setDepot w out f S [.ref x, .int a0, .int a1, .ref out] (PW w x o) := by
  refine conW (by decide +kernel) rfl (Nat.le_of_ble_eq_true rfl) (fun p e s m args below meth c B0 hT => ?_)
  have B : Bd p s m args meth c cL_setDepot 5 (wsOfH yL_setDepot cL_setDepot 5 (some .int) [(0, 10, 13, 15)]) RL (wo w out f) (some .int) "setDepot" := B0
  refine k_aload_n B 3 rfl rfl dL_setDepot_0 ?_
  refine k_iconst (v := 0) B (by decide) dL_setDepot_1 ?_
  refine k_aload_n B 0 rfl rfl dL_setDepot_2 ?_
  refine k_iload_n B 1 rfl rfl dL_setDepot_3 ?_
  refine k_iload_n B 2 rfl rfl dL_setDepot_4 ?_
  refine xcallV_I (st := [.int 0, .ref out]) B [.int a0, .int a1] hc (cwV 2 B.1.2.2.2.2 (gVH qlRL_17 qiX11_setDepot qeX11_setDepot qzRX11 qcX11_setDepot) rfl rfl rfl (by decide +kernel) ⟨Nat.le_of_ble_eq_true rfl, Nat.le_of_ble_eq_true rfl⟩) rfl rfl (by decide) hk (Nat.le_of_ble_eq_true rfl) rfl dL_setDepot_5 ⟨Nat.le_of_ble_eq_true rfl, Nat.le_of_ble_eq_true rfl⟩ (fun E ce q9 S' H1 locs1 ls hp g1 g2 g3 g4 g5 g6 => ?_) (fun r S' hp => ?_)
  · obtain ⟨i, e1, e2, e3⟩ := hp
    rcases i with _ | i
    · obtain rfl : nIA = E := Option.some.inj e1
      refine l_catch B hT (pre := []) (x := (⟨0, 10, 13, 15⟩ : ExceptionTableEntry)) (suf := []) rfl (fun z hz => by cases hz) (by decide) (by decide : (15 : Nat) ≠ 0) (in_ofH qkRL_15) (List.mem_of_getElem? (i := 1) rfl) g1 g2 g3 g4 g5 g6 ?_
      refine k_astore B (Nat.le_of_ble_eq_true rfl) rfl dL_setDepot_13 ?_
      refine k_iconst (v := 1) B (by decide) dL_setDepot_15 ?_
      exact ret_W B0 rfl dL_setDepot_16 (Nat.le_of_ble_eq_true rfl) (Nat.le_of_ble_eq_true rfl) ⟨e2.symm, fun z => absurd z (by decide), e3⟩
    · exact absurd e1 (by simp)
  · obtain ⟨e1, e2, e3⟩ := hp
    refine k_i2l B dL_setDepot_8 ?_
    refine k_lastO B0 dL_setDepot_9 ?_
    have B1 : Bd p s m args meth c cL_setDepot 5 (wsOfH yL_setDepot cL_setDepot 5 (some .int) [(0, 10, 13, 15)]) RL (wo w out (vp_updL f 0 r.toInt64)) (some .int) "setDepot" := B0
    refine k_goto (tgt := 17) B1 dL_setDepot_10 (by decide) ?_
    refine k_iconst (v := 0) B1 (by decide) dL_setDepot_17 ?_
    exact ret_W B0 rfl dL_setDepot_18 (Nat.le_of_ble_eq_true rfl) (Nat.le_of_ble_eq_true rfl) ⟨e1.symm, fun _ => by rw [e2]; exact updL_0, e3⟩
def rL_addHome : Room := { frames := 10, cells := 8, slots := 73, locals := 225 }
theorem cL_addHomeW {S : St} {out : Nat} {f : Nat → Int64} {x : Nat} {a0 a1 a2 : Int32} {o : Out} (hk : kd S x = 13) (hc : ConXI l yX11_addHome (wsOf yX11_addHome cX11_addHome 4 (some .int)) rX11_addHome (wo w out f) S [.ref x, .int a0, .int a1, .int a2] (CP (wo w out f) x o) (CE (wo w out f) x [nIA, nIS] o)) :
    ConW l yL_addHome (wsOfH yL_addHome cL_addHome 6 (some .int) [(0, 12, 15, 15), (0, 12, 19, 24)]) rL_addHome w out f S [.ref x, .int a0, .int a1, .int a2, .ref out] (PW w x o) := by
  refine conW (by decide +kernel) rfl (Nat.le_of_ble_eq_true rfl) (fun p e s m args below meth c B0 hT => ?_)
  have B : Bd p s m args meth c cL_addHome 6 (wsOfH yL_addHome cL_addHome 6 (some .int) [(0, 12, 15, 15), (0, 12, 19, 24)]) RL (wo w out f) (some .int) "addHome" := B0
  refine k_aload B 4 rfl dL_addHome_0 ?_
  refine k_iconst (v := 0) B (by decide) dL_addHome_2 ?_
  refine k_aload_n B 0 rfl rfl dL_addHome_3 ?_
  refine k_iload_n B 1 rfl rfl dL_addHome_4 ?_
  refine k_iload_n B 2 rfl rfl dL_addHome_5 ?_
  refine k_iload_n B 3 rfl rfl dL_addHome_6 ?_
  refine xcallV_I (st := [.int 0, .ref out]) B [.int a0, .int a1, .int a2] hc (cwV 3 B.1.2.2.2.2 (gVH qlRL_20 qiX11_addHome qeX11_addHome qzRX11 qcX11_addHome) rfl rfl rfl (by decide +kernel) ⟨Nat.le_of_ble_eq_true rfl, Nat.le_of_ble_eq_true rfl⟩) rfl rfl (by decide) hk (Nat.le_of_ble_eq_true rfl) rfl dL_addHome_7 ⟨Nat.le_of_ble_eq_true rfl, Nat.le_of_ble_eq_true rfl⟩ (fun E ce q9 S' H1 locs1 ls hp g1 g2 g3 g4 g5 g6 => ?_) (fun r S' hp => ?_)
  · obtain ⟨i, e1, e2, e3⟩ := hp
    rcases i with _ | _ | i
    · obtain rfl : nIA = E := Option.some.inj e1
      refine l_catch B hT (pre := []) (x := (⟨0, 12, 15, 15⟩ : ExceptionTableEntry)) (suf := [(⟨0, 12, 19, 24⟩ : ExceptionTableEntry)]) rfl (fun z hz => by cases hz) (by decide) (by decide : (15 : Nat) ≠ 0) (in_ofH qkRL_15) (List.mem_of_getElem? (i := 1) rfl) g1 g2 g3 g4 g5 g6 ?_
      refine k_astore B (Nat.le_of_ble_eq_true rfl) rfl dL_addHome_15 ?_
      refine k_iconst (v := 1) B (by decide) dL_addHome_17 ?_
      exact ret_W B0 rfl dL_addHome_18 (Nat.le_of_ble_eq_true rfl) (Nat.le_of_ble_eq_true rfl) ⟨e2.symm, fun z => absurd z (by decide), e3⟩
    · obtain rfl : nIS = E := Option.some.inj e1
      refine l_catch B hT (pre := [(⟨0, 12, 15, 15⟩ : ExceptionTableEntry)]) (x := (⟨0, 12, 19, 24⟩ : ExceptionTableEntry)) (suf := []) rfl (fun z hz => by
          simp only [List.mem_cons, List.not_mem_nil, or_false] at hz
          rcases hz with rfl
          · exact ⟨(by decide : (15 : Nat) ≠ 0), nIA, in_ofH qkRL_15, List.mem_of_getElem? (i := 5) rfl⟩) (by decide) (by decide : (24 : Nat) ≠ 0) (in_ofH qkRL_24) (List.mem_of_getElem? (i := 2) rfl) g1 g2 g3 g4 g5 g6 ?_
      refine k_astore B (Nat.le_of_ble_eq_true rfl) rfl dL_addHome_19 ?_
      refine k_iconst (v := 2) B (by decide) dL_addHome_21 ?_
      exact ret_W B0 rfl dL_addHome_22 (Nat.le_of_ble_eq_true rfl) (Nat.le_of_ble_eq_true rfl) ⟨e2.symm, fun z => absurd z (by decide), e3⟩
    · exact absurd e1 (by simp)
  · obtain ⟨e1, e2, e3⟩ := hp
    refine k_i2l B dL_addHome_10 ?_
    refine k_lastO B0 dL_addHome_11 ?_
    have B1 : Bd p s m args meth c cL_addHome 6 (wsOfH yL_addHome cL_addHome 6 (some .int) [(0, 12, 15, 15), (0, 12, 19, 24)]) RL (wo w out (vp_updL f 0 r.toInt64)) (some .int) "addHome" := B0
    refine k_goto (tgt := 23) B1 dL_addHome_12 (by decide) ?_
    refine k_iconst (v := 0) B1 (by decide) dL_addHome_23 ?_
    exact ret_W B0 rfl dL_addHome_24 (Nat.le_of_ble_eq_true rfl) (Nat.le_of_ble_eq_true rfl) ⟨e1.symm, fun _ => by rw [e2]; exact updL_0, e3⟩
def rL_order : Room := { frames := 9, cells := 4, slots := 24, locals := 181 }
theorem cL_orderW {S : St} {out : Nat} {f : Nat → Int64} {x : Nat} {a0 a1 a2 : Int32} {o : Out} (hk : kd S x = 13) (hc : ConXI l yX11_order (wsOf yX11_order cX11_order 5 (some .int)) rX11_order (wo w out f) S [.ref x, .int a0, .int a1, .int a2] (CP (wo w out f) x o) (CE (wo w out f) x [nIO, nIA, nIS] o)) :
    ConW l yL_order (wsOfH yL_order cL_order 6 (some .int) [(0, 12, 15, 13), (0, 12, 19, 15), (0, 12, 23, 24)]) rL_order w out f S [.ref x, .int a0, .int a1, .int a2, .ref out] (PW w x o) := by
  refine conW (by decide +kernel) rfl (Nat.le_of_ble_eq_true rfl) (fun p e s m args below meth c B0 hT => ?_)
  have B : Bd p s m args meth c cL_order 6 (wsOfH yL_order cL_order 6 (some .int) [(0, 12, 15, 13), (0, 12, 19, 15), (0, 12, 23, 24)]) RL (wo w out f) (some .int) "order" := B0
  refine k_aload B 4 rfl dL_order_0 ?_
  refine k_iconst (v := 0) B (by decide) dL_order_2 ?_
  refine k_aload_n B 0 rfl rfl dL_order_3 ?_
  refine k_iload_n B 1 rfl rfl dL_order_4 ?_
  refine k_iload_n B 2 rfl rfl dL_order_5 ?_
  refine k_iload_n B 3 rfl rfl dL_order_6 ?_
  refine xcallV_I (st := [.int 0, .ref out]) B [.int a0, .int a1, .int a2] hc (cwV 3 B.1.2.2.2.2 (gVH qlRL_26 qiX11_order qeX11_order qzRX11 qcX11_order) rfl rfl rfl (by decide +kernel) ⟨Nat.le_of_ble_eq_true rfl, Nat.le_of_ble_eq_true rfl⟩) rfl rfl (by decide) hk (Nat.le_of_ble_eq_true rfl) rfl dL_order_7 ⟨Nat.le_of_ble_eq_true rfl, Nat.le_of_ble_eq_true rfl⟩ (fun E ce q9 S' H1 locs1 ls hp g1 g2 g3 g4 g5 g6 => ?_) (fun r S' hp => ?_)
  · obtain ⟨i, e1, e2, e3⟩ := hp
    rcases i with _ | _ | _ | i
    · obtain rfl : nIO = E := Option.some.inj e1
      refine l_catch B hT (pre := []) (x := (⟨0, 12, 15, 13⟩ : ExceptionTableEntry)) (suf := [(⟨0, 12, 19, 15⟩ : ExceptionTableEntry), (⟨0, 12, 23, 24⟩ : ExceptionTableEntry)]) rfl (fun z hz => by cases hz) (by decide) (by decide : (13 : Nat) ≠ 0) (in_ofH qkRL_13) (List.mem_of_getElem? (i := 0) rfl) g1 g2 g3 g4 g5 g6 ?_
      refine k_astore B (Nat.le_of_ble_eq_true rfl) rfl dL_order_15 ?_
      refine k_iconst (v := 1) B (by decide) dL_order_17 ?_
      exact ret_W B0 rfl dL_order_18 (Nat.le_of_ble_eq_true rfl) (Nat.le_of_ble_eq_true rfl) ⟨e2.symm, fun z => absurd z (by decide), e3⟩
    · obtain rfl : nIA = E := Option.some.inj e1
      refine l_catch B hT (pre := [(⟨0, 12, 15, 13⟩ : ExceptionTableEntry)]) (x := (⟨0, 12, 19, 15⟩ : ExceptionTableEntry)) (suf := [(⟨0, 12, 23, 24⟩ : ExceptionTableEntry)]) rfl (fun z hz => by
          simp only [List.mem_cons, List.not_mem_nil, or_false] at hz
          rcases hz with rfl
          · exact ⟨(by decide : (13 : Nat) ≠ 0), nIO, in_ofH qkRL_13, List.mem_of_getElem? (i := 2) rfl⟩) (by decide) (by decide : (15 : Nat) ≠ 0) (in_ofH qkRL_15) (List.mem_of_getElem? (i := 1) rfl) g1 g2 g3 g4 g5 g6 ?_
      refine k_astore B (Nat.le_of_ble_eq_true rfl) rfl dL_order_19 ?_
      refine k_iconst (v := 2) B (by decide) dL_order_21 ?_
      exact ret_W B0 rfl dL_order_22 (Nat.le_of_ble_eq_true rfl) (Nat.le_of_ble_eq_true rfl) ⟨e2.symm, fun z => absurd z (by decide), e3⟩
    · obtain rfl : nIS = E := Option.some.inj e1
      refine l_catch B hT (pre := [(⟨0, 12, 15, 13⟩ : ExceptionTableEntry), (⟨0, 12, 19, 15⟩ : ExceptionTableEntry)]) (x := (⟨0, 12, 23, 24⟩ : ExceptionTableEntry)) (suf := []) rfl (fun z hz => by
          simp only [List.mem_cons, List.not_mem_nil, or_false] at hz
          rcases hz with rfl | rfl
          · exact ⟨(by decide : (13 : Nat) ≠ 0), nIO, in_ofH qkRL_13, List.mem_of_getElem? (i := 4) rfl⟩
          · exact ⟨(by decide : (15 : Nat) ≠ 0), nIA, in_ofH qkRL_15, List.mem_of_getElem? (i := 5) rfl⟩) (by decide) (by decide : (24 : Nat) ≠ 0) (in_ofH qkRL_24) (List.mem_of_getElem? (i := 2) rfl) g1 g2 g3 g4 g5 g6 ?_
      refine k_astore B (Nat.le_of_ble_eq_true rfl) rfl dL_order_23 ?_
      refine k_iconst (v := 3) B (by decide) dL_order_25 ?_
      exact ret_W B0 rfl dL_order_26 (Nat.le_of_ble_eq_true rfl) (Nat.le_of_ble_eq_true rfl) ⟨e2.symm, fun z => absurd z (by decide), e3⟩
    · exact absurd e1 (by simp)
  · obtain ⟨e1, e2, e3⟩ := hp
    refine k_i2l B dL_order_10 ?_
    refine k_lastO B0 dL_order_11 ?_
    have B1 : Bd p s m args meth c cL_order 6 (wsOfH yL_order cL_order 6 (some .int) [(0, 12, 15, 13), (0, 12, 19, 15), (0, 12, 23, 24)]) RL (wo w out (vp_updL f 0 r.toInt64)) (some .int) "order" := B0
    refine k_goto (tgt := 27) B1 dL_order_12 (by decide) ?_
    refine k_iconst (v := 0) B1 (by decide) dL_order_27 ?_
    exact ret_W B0 rfl dL_order_28 (Nat.le_of_ble_eq_true rfl) (Nat.le_of_ble_eq_true rfl) ⟨e1.symm, fun _ => by rw [e2]; exact updL_0, e3⟩
def rL_addLocker : Room := { frames := 10, cells := 11, slots := 87, locals := 227 }
theorem cL_addLockerW {S : St} {out : Nat} {f : Nat → Int64} {x : Nat} {a0 a1 a2 a3 a4 : Int32} {o : Out} (hk : kd S x = 13) (hc : ConXI l yX11_addLocker (wsOf yX11_addLocker cX11_addLocker 6 (some .int)) rX11_addLocker (wo w out f) S [.ref x, .int a0, .int a1, .int a2, .int a3, .int a4] (CP (wo w out f) x o) (CE (wo w out f) x [nIA, nIS] o)) :
    ConW l yL_addLocker (wsOfH yL_addLocker cL_addLocker 8 (some .int) [(0, 16, 19, 15), (0, 16, 23, 24)]) rL_addLocker w out f S [.ref x, .int a0, .int a1, .int a2, .int a3, .int a4, .ref out] (PW w x o) := by
  refine conW (by decide +kernel) rfl (Nat.le_of_ble_eq_true rfl) (fun p e s m args below meth c B0 hT => ?_)
  have B : Bd p s m args meth c cL_addLocker 8 (wsOfH yL_addLocker cL_addLocker 8 (some .int) [(0, 16, 19, 15), (0, 16, 23, 24)]) RL (wo w out f) (some .int) "addLocker" := B0
  refine k_aload B 6 rfl dL_addLocker_0 ?_
  refine k_iconst (v := 0) B (by decide) dL_addLocker_2 ?_
  refine k_aload_n B 0 rfl rfl dL_addLocker_3 ?_
  refine k_iload_n B 1 rfl rfl dL_addLocker_4 ?_
  refine k_iload_n B 2 rfl rfl dL_addLocker_5 ?_
  refine k_iload_n B 3 rfl rfl dL_addLocker_6 ?_
  refine k_iload B 4 rfl dL_addLocker_7 ?_
  refine k_iload B 5 rfl dL_addLocker_9 ?_
  refine xcallV_I (st := [.int 0, .ref out]) B [.int a0, .int a1, .int a2, .int a3, .int a4] hc (cwV 5 B.1.2.2.2.2 (gVH qlRL_30 qiX11_addLocker qeX11_addLocker qzRX11 qcX11_addLocker) rfl rfl rfl (by decide +kernel) ⟨Nat.le_of_ble_eq_true rfl, Nat.le_of_ble_eq_true rfl⟩) rfl rfl (by decide) hk (Nat.le_of_ble_eq_true rfl) rfl dL_addLocker_11 ⟨Nat.le_of_ble_eq_true rfl, Nat.le_of_ble_eq_true rfl⟩ (fun E ce q9 S' H1 locs1 ls hp g1 g2 g3 g4 g5 g6 => ?_) (fun r S' hp => ?_)
  · obtain ⟨i, e1, e2, e3⟩ := hp
    rcases i with _ | _ | i
    · obtain rfl : nIA = E := Option.some.inj e1
      refine l_catch B hT (pre := []) (x := (⟨0, 16, 19, 15⟩ : ExceptionTableEntry)) (suf := [(⟨0, 16, 23, 24⟩ : ExceptionTableEntry)]) rfl (fun z hz => by cases hz) (by decide) (by decide : (15 : Nat) ≠ 0) (in_ofH qkRL_15) (List.mem_of_getElem? (i := 1) rfl) g1 g2 g3 g4 g5 g6 ?_
      refine k_astore B (Nat.le_of_ble_eq_true rfl) rfl dL_addLocker_19 ?_
      refine k_iconst (v := 1) B (by decide) dL_addLocker_21 ?_
      exact ret_W B0 rfl dL_addLocker_22 (Nat.le_of_ble_eq_true rfl) (Nat.le_of_ble_eq_true rfl) ⟨e2.symm, fun z => absurd z (by decide), e3⟩
    · obtain rfl : nIS = E := Option.some.inj e1
      refine l_catch B hT (pre := [(⟨0, 16, 19, 15⟩ : ExceptionTableEntry)]) (x := (⟨0, 16, 23, 24⟩ : ExceptionTableEntry)) (suf := []) rfl (fun z hz => by
          simp only [List.mem_cons, List.not_mem_nil, or_false] at hz
          rcases hz with rfl
          · exact ⟨(by decide : (15 : Nat) ≠ 0), nIA, in_ofH qkRL_15, List.mem_of_getElem? (i := 5) rfl⟩) (by decide) (by decide : (24 : Nat) ≠ 0) (in_ofH qkRL_24) (List.mem_of_getElem? (i := 2) rfl) g1 g2 g3 g4 g5 g6 ?_
      refine k_astore B (Nat.le_of_ble_eq_true rfl) rfl dL_addLocker_23 ?_
      refine k_iconst (v := 2) B (by decide) dL_addLocker_25 ?_
      exact ret_W B0 rfl dL_addLocker_26 (Nat.le_of_ble_eq_true rfl) (Nat.le_of_ble_eq_true rfl) ⟨e2.symm, fun z => absurd z (by decide), e3⟩
    · exact absurd e1 (by simp)
  · obtain ⟨e1, e2, e3⟩ := hp
    refine k_i2l B dL_addLocker_14 ?_
    refine k_lastO B0 dL_addLocker_15 ?_
    have B1 : Bd p s m args meth c cL_addLocker 8 (wsOfH yL_addLocker cL_addLocker 8 (some .int) [(0, 16, 19, 15), (0, 16, 23, 24)]) RL (wo w out (vp_updL f 0 r.toInt64)) (some .int) "addLocker" := B0
    refine k_goto (tgt := 27) B1 dL_addLocker_16 (by decide) ?_
    refine k_iconst (v := 0) B1 (by decide) dL_addLocker_27 ?_
    exact ret_W B0 rfl dL_addLocker_28 (Nat.le_of_ble_eq_true rfl) (Nat.le_of_ble_eq_true rfl) ⟨e1.symm, fun _ => by rw [e2]; exact updL_0, e3⟩
def rL_addVan : Room := { frames := 9, cells := 8, slots := 84, locals := 225 }
theorem cL_addVanW {S : St} {out : Nat} {f : Nat → Int64} {x : Nat} {a0 a1 a2 : Int32} {o : Out} (hk : kd S x = 13) (hc : ConXI l yX11_addVan (wsOf yX11_addVan cX11_addVan 4 (some .int)) rX11_addVan (wo w out f) S [.ref x, .int a0, .int a1, .int a2] (CP (wo w out f) x o) (CE (wo w out f) x [nIA, nIS] o)) :
    ConW l yL_addVan (wsOfH yL_addVan cL_addVan 6 (some .int) [(0, 12, 15, 15), (0, 12, 19, 24)]) rL_addVan w out f S [.ref x, .int a0, .int a1, .int a2, .ref out] (PW w x o) := by
  refine conW (by decide +kernel) rfl (Nat.le_of_ble_eq_true rfl) (fun p e s m args below meth c B0 hT => ?_)
  have B : Bd p s m args meth c cL_addVan 6 (wsOfH yL_addVan cL_addVan 6 (some .int) [(0, 12, 15, 15), (0, 12, 19, 24)]) RL (wo w out f) (some .int) "addVan" := B0
  refine k_aload B 4 rfl dL_addVan_0 ?_
  refine k_iconst (v := 0) B (by decide) dL_addVan_2 ?_
  refine k_aload_n B 0 rfl rfl dL_addVan_3 ?_
  refine k_iload_n B 1 rfl rfl dL_addVan_4 ?_
  refine k_iload_n B 2 rfl rfl dL_addVan_5 ?_
  refine k_iload_n B 3 rfl rfl dL_addVan_6 ?_
  refine xcallV_I (st := [.int 0, .ref out]) B [.int a0, .int a1, .int a2] hc (cwV 3 B.1.2.2.2.2 (gVH qlRL_34 qiX11_addVan qeX11_addVan qzRX11 qcX11_addVan) rfl rfl rfl (by decide +kernel) ⟨Nat.le_of_ble_eq_true rfl, Nat.le_of_ble_eq_true rfl⟩) rfl rfl (by decide) hk (Nat.le_of_ble_eq_true rfl) rfl dL_addVan_7 ⟨Nat.le_of_ble_eq_true rfl, Nat.le_of_ble_eq_true rfl⟩ (fun E ce q9 S' H1 locs1 ls hp g1 g2 g3 g4 g5 g6 => ?_) (fun r S' hp => ?_)
  · obtain ⟨i, e1, e2, e3⟩ := hp
    rcases i with _ | _ | i
    · obtain rfl : nIA = E := Option.some.inj e1
      refine l_catch B hT (pre := []) (x := (⟨0, 12, 15, 15⟩ : ExceptionTableEntry)) (suf := [(⟨0, 12, 19, 24⟩ : ExceptionTableEntry)]) rfl (fun z hz => by cases hz) (by decide) (by decide : (15 : Nat) ≠ 0) (in_ofH qkRL_15) (List.mem_of_getElem? (i := 1) rfl) g1 g2 g3 g4 g5 g6 ?_
      refine k_astore B (Nat.le_of_ble_eq_true rfl) rfl dL_addVan_15 ?_
      refine k_iconst (v := 1) B (by decide) dL_addVan_17 ?_
      exact ret_W B0 rfl dL_addVan_18 (Nat.le_of_ble_eq_true rfl) (Nat.le_of_ble_eq_true rfl) ⟨e2.symm, fun z => absurd z (by decide), e3⟩
    · obtain rfl : nIS = E := Option.some.inj e1
      refine l_catch B hT (pre := [(⟨0, 12, 15, 15⟩ : ExceptionTableEntry)]) (x := (⟨0, 12, 19, 24⟩ : ExceptionTableEntry)) (suf := []) rfl (fun z hz => by
          simp only [List.mem_cons, List.not_mem_nil, or_false] at hz
          rcases hz with rfl
          · exact ⟨(by decide : (15 : Nat) ≠ 0), nIA, in_ofH qkRL_15, List.mem_of_getElem? (i := 5) rfl⟩) (by decide) (by decide : (24 : Nat) ≠ 0) (in_ofH qkRL_24) (List.mem_of_getElem? (i := 2) rfl) g1 g2 g3 g4 g5 g6 ?_
      refine k_astore B (Nat.le_of_ble_eq_true rfl) rfl dL_addVan_19 ?_
      refine k_iconst (v := 2) B (by decide) dL_addVan_21 ?_
      exact ret_W B0 rfl dL_addVan_22 (Nat.le_of_ble_eq_true rfl) (Nat.le_of_ble_eq_true rfl) ⟨e2.symm, fun z => absurd z (by decide), e3⟩
    · exact absurd e1 (by simp)
  · obtain ⟨e1, e2, e3⟩ := hp
    refine k_i2l B dL_addVan_10 ?_
    refine k_lastO B0 dL_addVan_11 ?_
    have B1 : Bd p s m args meth c cL_addVan 6 (wsOfH yL_addVan cL_addVan 6 (some .int) [(0, 12, 15, 15), (0, 12, 19, 24)]) RL (wo w out (vp_updL f 0 r.toInt64)) (some .int) "addVan" := B0
    refine k_goto (tgt := 23) B1 dL_addVan_12 (by decide) ?_
    refine k_iconst (v := 0) B1 (by decide) dL_addVan_23 ?_
    exact ret_W B0 rfl dL_addVan_24 (Nat.le_of_ble_eq_true rfl) (Nat.le_of_ble_eq_true rfl) ⟨e1.symm, fun _ => by rw [e2]; exact updL_0, e3⟩
def rL_addParcel : Room := { frames := 9, cells := 9, slots := 95, locals := 227 }
theorem cL_addParcelW {S : St} {out : Nat} {f : Nat → Int64} {x : Nat} {a0 a1 a2 a3 a4 : Int32} {o : Out} (hk : kd S x = 13) (hc : ConXI l yX11_addParcel (wsOf yX11_addParcel cX11_addParcel 6 (some .int)) rX11_addParcel (wo w out f) S [.ref x, .int a0, .int a1, .int a2, .int a3, .int a4] (CP (wo w out f) x o) (CE (wo w out f) x [nIA, nIO, nIS] o)) :
    ConW l yL_addParcel (wsOfH yL_addParcel cL_addParcel 8 (some .int) [(0, 16, 19, 15), (0, 16, 23, 13), (0, 16, 27, 24)]) rL_addParcel w out f S [.ref x, .int a0, .int a1, .int a2, .int a3, .int a4, .ref out] (PW w x o) := by
  refine conW (by decide +kernel) rfl (Nat.le_of_ble_eq_true rfl) (fun p e s m args below meth c B0 hT => ?_)
  have B : Bd p s m args meth c cL_addParcel 8 (wsOfH yL_addParcel cL_addParcel 8 (some .int) [(0, 16, 19, 15), (0, 16, 23, 13), (0, 16, 27, 24)]) RL (wo w out f) (some .int) "addParcel" := B0
  refine k_aload B 6 rfl dL_addParcel_0 ?_
  refine k_iconst (v := 0) B (by decide) dL_addParcel_2 ?_
  refine k_aload_n B 0 rfl rfl dL_addParcel_3 ?_
  refine k_iload_n B 1 rfl rfl dL_addParcel_4 ?_
  refine k_iload_n B 2 rfl rfl dL_addParcel_5 ?_
  refine k_iload_n B 3 rfl rfl dL_addParcel_6 ?_
  refine k_iload B 4 rfl dL_addParcel_7 ?_
  refine k_iload B 5 rfl dL_addParcel_9 ?_
  refine xcallV_I (st := [.int 0, .ref out]) B [.int a0, .int a1, .int a2, .int a3, .int a4] hc (cwV 5 B.1.2.2.2.2 (gVH qlRL_37 qiX11_addParcel qeX11_addParcel qzRX11 qcX11_addParcel) rfl rfl rfl (by decide +kernel) ⟨Nat.le_of_ble_eq_true rfl, Nat.le_of_ble_eq_true rfl⟩) rfl rfl (by decide) hk (Nat.le_of_ble_eq_true rfl) rfl dL_addParcel_11 ⟨Nat.le_of_ble_eq_true rfl, Nat.le_of_ble_eq_true rfl⟩ (fun E ce q9 S' H1 locs1 ls hp g1 g2 g3 g4 g5 g6 => ?_) (fun r S' hp => ?_)
  · obtain ⟨i, e1, e2, e3⟩ := hp
    rcases i with _ | _ | _ | i
    · obtain rfl : nIA = E := Option.some.inj e1
      refine l_catch B hT (pre := []) (x := (⟨0, 16, 19, 15⟩ : ExceptionTableEntry)) (suf := [(⟨0, 16, 23, 13⟩ : ExceptionTableEntry), (⟨0, 16, 27, 24⟩ : ExceptionTableEntry)]) rfl (fun z hz => by cases hz) (by decide) (by decide : (15 : Nat) ≠ 0) (in_ofH qkRL_15) (List.mem_of_getElem? (i := 1) rfl) g1 g2 g3 g4 g5 g6 ?_
      refine k_astore B (Nat.le_of_ble_eq_true rfl) rfl dL_addParcel_19 ?_
      refine k_iconst (v := 1) B (by decide) dL_addParcel_21 ?_
      exact ret_W B0 rfl dL_addParcel_22 (Nat.le_of_ble_eq_true rfl) (Nat.le_of_ble_eq_true rfl) ⟨e2.symm, fun z => absurd z (by decide), e3⟩
    · obtain rfl : nIO = E := Option.some.inj e1
      refine l_catch B hT (pre := [(⟨0, 16, 19, 15⟩ : ExceptionTableEntry)]) (x := (⟨0, 16, 23, 13⟩ : ExceptionTableEntry)) (suf := [(⟨0, 16, 27, 24⟩ : ExceptionTableEntry)]) rfl (fun z hz => by
          simp only [List.mem_cons, List.not_mem_nil, or_false] at hz
          rcases hz with rfl
          · exact ⟨(by decide : (15 : Nat) ≠ 0), nIA, in_ofH qkRL_15, List.mem_of_getElem? (i := 0) rfl⟩) (by decide) (by decide : (13 : Nat) ≠ 0) (in_ofH qkRL_13) (List.mem_of_getElem? (i := 0) rfl) g1 g2 g3 g4 g5 g6 ?_
      refine k_astore B (Nat.le_of_ble_eq_true rfl) rfl dL_addParcel_23 ?_
      refine k_iconst (v := 2) B (by decide) dL_addParcel_25 ?_
      exact ret_W B0 rfl dL_addParcel_26 (Nat.le_of_ble_eq_true rfl) (Nat.le_of_ble_eq_true rfl) ⟨e2.symm, fun z => absurd z (by decide), e3⟩
    · obtain rfl : nIS = E := Option.some.inj e1
      refine l_catch B hT (pre := [(⟨0, 16, 19, 15⟩ : ExceptionTableEntry), (⟨0, 16, 23, 13⟩ : ExceptionTableEntry)]) (x := (⟨0, 16, 27, 24⟩ : ExceptionTableEntry)) (suf := []) rfl (fun z hz => by
          simp only [List.mem_cons, List.not_mem_nil, or_false] at hz
          rcases hz with rfl | rfl
          · exact ⟨(by decide : (15 : Nat) ≠ 0), nIA, in_ofH qkRL_15, List.mem_of_getElem? (i := 5) rfl⟩
          · exact ⟨(by decide : (13 : Nat) ≠ 0), nIO, in_ofH qkRL_13, List.mem_of_getElem? (i := 4) rfl⟩) (by decide) (by decide : (24 : Nat) ≠ 0) (in_ofH qkRL_24) (List.mem_of_getElem? (i := 2) rfl) g1 g2 g3 g4 g5 g6 ?_
      refine k_astore B (Nat.le_of_ble_eq_true rfl) rfl dL_addParcel_27 ?_
      refine k_iconst (v := 3) B (by decide) dL_addParcel_29 ?_
      exact ret_W B0 rfl dL_addParcel_30 (Nat.le_of_ble_eq_true rfl) (Nat.le_of_ble_eq_true rfl) ⟨e2.symm, fun z => absurd z (by decide), e3⟩
    · exact absurd e1 (by simp)
  · obtain ⟨e1, e2, e3⟩ := hp
    refine k_i2l B dL_addParcel_14 ?_
    refine k_lastO B0 dL_addParcel_15 ?_
    have B1 : Bd p s m args meth c cL_addParcel 8 (wsOfH yL_addParcel cL_addParcel 8 (some .int) [(0, 16, 19, 15), (0, 16, 23, 13), (0, 16, 27, 24)]) RL (wo w out (vp_updL f 0 r.toInt64)) (some .int) "addParcel" := B0
    refine k_goto (tgt := 31) B1 dL_addParcel_16 (by decide) ?_
    refine k_iconst (v := 0) B1 (by decide) dL_addParcel_31 ?_
    exact ret_W B0 rfl dL_addParcel_32 (Nat.le_of_ble_eq_true rfl) (Nat.le_of_ble_eq_true rfl) ⟨e1.symm, fun _ => by rw [e2]; exact updL_0, e3⟩
def rL_home : Room := { frames := 9, cells := 2, slots := 12, locals := 204 }
theorem cL_homeW {S : St} {out : Nat} {f : Nat → Int64} {x : Nat} {a0 a1 : Int32} {o : Out} (hk : kd S x = 13) (hc : ConXI l yX11_home (wsOf yX11_home cX11_home 3 (some .int)) rX11_home (wo w out f) S [.ref x, .int a0, .int a1] (CP (wo w out f) x o) (CE (wo w out f) x [nIO] o)) :
    ConW l yL_home (wsOfH yL_home cL_home 5 (some .int) [(0, 10, 13, 13)]) rL_home w out f S [.ref x, .int a0, .int a1, .ref out] (PW w x o) := by
  refine conW (by decide +kernel) rfl (Nat.le_of_ble_eq_true rfl) (fun p e s m args below meth c B0 hT => ?_)
  have B : Bd p s m args meth c cL_home 5 (wsOfH yL_home cL_home 5 (some .int) [(0, 10, 13, 13)]) RL (wo w out f) (some .int) "home" := B0
  refine k_aload_n B 3 rfl rfl dL_home_0 ?_
  refine k_iconst (v := 0) B (by decide) dL_home_1 ?_
  refine k_aload_n B 0 rfl rfl dL_home_2 ?_
  refine k_iload_n B 1 rfl rfl dL_home_3 ?_
  refine k_iload_n B 2 rfl rfl dL_home_4 ?_
  refine xcallV_I (st := [.int 0, .ref out]) B [.int a0, .int a1] hc (cwV 2 B.1.2.2.2.2 (gVH qlRL_40 qiX11_home qeX11_home qzRX11 qcX11_home) rfl rfl rfl (by decide +kernel) ⟨Nat.le_of_ble_eq_true rfl, Nat.le_of_ble_eq_true rfl⟩) rfl rfl (by decide) hk (Nat.le_of_ble_eq_true rfl) rfl dL_home_5 ⟨Nat.le_of_ble_eq_true rfl, Nat.le_of_ble_eq_true rfl⟩ (fun E ce q9 S' H1 locs1 ls hp g1 g2 g3 g4 g5 g6 => ?_) (fun r S' hp => ?_)
  · obtain ⟨i, e1, e2, e3⟩ := hp
    rcases i with _ | i
    · obtain rfl : nIO = E := Option.some.inj e1
      refine l_catch B hT (pre := []) (x := (⟨0, 10, 13, 13⟩ : ExceptionTableEntry)) (suf := []) rfl (fun z hz => by cases hz) (by decide) (by decide : (13 : Nat) ≠ 0) (in_ofH qkRL_13) (List.mem_of_getElem? (i := 0) rfl) g1 g2 g3 g4 g5 g6 ?_
      refine k_astore B (Nat.le_of_ble_eq_true rfl) rfl dL_home_13 ?_
      refine k_iconst (v := 1) B (by decide) dL_home_15 ?_
      exact ret_W B0 rfl dL_home_16 (Nat.le_of_ble_eq_true rfl) (Nat.le_of_ble_eq_true rfl) ⟨e2.symm, fun z => absurd z (by decide), e3⟩
    · exact absurd e1 (by simp)
  · obtain ⟨e1, e2, e3⟩ := hp
    refine k_i2l B dL_home_8 ?_
    refine k_lastO B0 dL_home_9 ?_
    have B1 : Bd p s m args meth c cL_home 5 (wsOfH yL_home cL_home 5 (some .int) [(0, 10, 13, 13)]) RL (wo w out (vp_updL f 0 r.toInt64)) (some .int) "home" := B0
    refine k_goto (tgt := 17) B1 dL_home_10 (by decide) ?_
    refine k_iconst (v := 0) B1 (by decide) dL_home_17 ?_
    exact ret_W B0 rfl dL_home_18 (Nat.le_of_ble_eq_true rfl) (Nat.le_of_ble_eq_true rfl) ⟨e1.symm, fun _ => by rw [e2]; exact updL_0, e3⟩
def rL_locker : Room := { frames := 9, cells := 2, slots := 12, locals := 204 }
theorem cL_lockerW {S : St} {out : Nat} {f : Nat → Int64} {x : Nat} {a0 a1 : Int32} {o : Out} (hk : kd S x = 13) (hc : ConXI l yX11_locker (wsOf yX11_locker cX11_locker 3 (some .int)) rX11_locker (wo w out f) S [.ref x, .int a0, .int a1] (CP (wo w out f) x o) (CE (wo w out f) x [nIO] o)) :
    ConW l yL_locker (wsOfH yL_locker cL_locker 5 (some .int) [(0, 10, 13, 13)]) rL_locker w out f S [.ref x, .int a0, .int a1, .ref out] (PW w x o) := by
  refine conW (by decide +kernel) rfl (Nat.le_of_ble_eq_true rfl) (fun p e s m args below meth c B0 hT => ?_)
  have B : Bd p s m args meth c cL_locker 5 (wsOfH yL_locker cL_locker 5 (some .int) [(0, 10, 13, 13)]) RL (wo w out f) (some .int) "locker" := B0
  refine k_aload_n B 3 rfl rfl dL_locker_0 ?_
  refine k_iconst (v := 0) B (by decide) dL_locker_1 ?_
  refine k_aload_n B 0 rfl rfl dL_locker_2 ?_
  refine k_iload_n B 1 rfl rfl dL_locker_3 ?_
  refine k_iload_n B 2 rfl rfl dL_locker_4 ?_
  refine xcallV_I (st := [.int 0, .ref out]) B [.int a0, .int a1] hc (cwV 2 B.1.2.2.2.2 (gVH qlRL_43 qiX11_locker qeX11_locker qzRX11 qcX11_locker) rfl rfl rfl (by decide +kernel) ⟨Nat.le_of_ble_eq_true rfl, Nat.le_of_ble_eq_true rfl⟩) rfl rfl (by decide) hk (Nat.le_of_ble_eq_true rfl) rfl dL_locker_5 ⟨Nat.le_of_ble_eq_true rfl, Nat.le_of_ble_eq_true rfl⟩ (fun E ce q9 S' H1 locs1 ls hp g1 g2 g3 g4 g5 g6 => ?_) (fun r S' hp => ?_)
  · obtain ⟨i, e1, e2, e3⟩ := hp
    rcases i with _ | i
    · obtain rfl : nIO = E := Option.some.inj e1
      refine l_catch B hT (pre := []) (x := (⟨0, 10, 13, 13⟩ : ExceptionTableEntry)) (suf := []) rfl (fun z hz => by cases hz) (by decide) (by decide : (13 : Nat) ≠ 0) (in_ofH qkRL_13) (List.mem_of_getElem? (i := 0) rfl) g1 g2 g3 g4 g5 g6 ?_
      refine k_astore B (Nat.le_of_ble_eq_true rfl) rfl dL_locker_13 ?_
      refine k_iconst (v := 1) B (by decide) dL_locker_15 ?_
      exact ret_W B0 rfl dL_locker_16 (Nat.le_of_ble_eq_true rfl) (Nat.le_of_ble_eq_true rfl) ⟨e2.symm, fun z => absurd z (by decide), e3⟩
    · exact absurd e1 (by simp)
  · obtain ⟨e1, e2, e3⟩ := hp
    refine k_i2l B dL_locker_8 ?_
    refine k_lastO B0 dL_locker_9 ?_
    have B1 : Bd p s m args meth c cL_locker 5 (wsOfH yL_locker cL_locker 5 (some .int) [(0, 10, 13, 13)]) RL (wo w out (vp_updL f 0 r.toInt64)) (some .int) "locker" := B0
    refine k_goto (tgt := 17) B1 dL_locker_10 (by decide) ?_
    refine k_iconst (v := 0) B1 (by decide) dL_locker_17 ?_
    exact ret_W B0 rfl dL_locker_18 (Nat.le_of_ble_eq_true rfl) (Nat.le_of_ble_eq_true rfl) ⟨e1.symm, fun _ => by rw [e2]; exact updL_0, e3⟩
def rL_parcel : Room := { frames := 9, cells := 2, slots := 12, locals := 179 }
theorem cL_parcelW {S : St} {out : Nat} {f : Nat → Int64} {x : Nat} {a0 a1 : Int32} {o : Out} (hk : kd S x = 13) (hc : ConXI l yX11_parcel (wsOf yX11_parcel cX11_parcel 3 (some .int)) rX11_parcel (wo w out f) S [.ref x, .int a0, .int a1] (CP (wo w out f) x o) (CE (wo w out f) x [nIO] o)) :
    ConW l yL_parcel (wsOfH yL_parcel cL_parcel 5 (some .int) [(0, 10, 13, 13)]) rL_parcel w out f S [.ref x, .int a0, .int a1, .ref out] (PW w x o) := by
  refine conW (by decide +kernel) rfl (Nat.le_of_ble_eq_true rfl) (fun p e s m args below meth c B0 hT => ?_)
  have B : Bd p s m args meth c cL_parcel 5 (wsOfH yL_parcel cL_parcel 5 (some .int) [(0, 10, 13, 13)]) RL (wo w out f) (some .int) "parcel" := B0
  refine k_aload_n B 3 rfl rfl dL_parcel_0 ?_
  refine k_iconst (v := 0) B (by decide) dL_parcel_1 ?_
  refine k_aload_n B 0 rfl rfl dL_parcel_2 ?_
  refine k_iload_n B 1 rfl rfl dL_parcel_3 ?_
  refine k_iload_n B 2 rfl rfl dL_parcel_4 ?_
  refine xcallV_I (st := [.int 0, .ref out]) B [.int a0, .int a1] hc (cwV 2 B.1.2.2.2.2 (gVH qlRL_46 qiX11_parcel qeX11_parcel qzRX11 qcX11_parcel) rfl rfl rfl (by decide +kernel) ⟨Nat.le_of_ble_eq_true rfl, Nat.le_of_ble_eq_true rfl⟩) rfl rfl (by decide) hk (Nat.le_of_ble_eq_true rfl) rfl dL_parcel_5 ⟨Nat.le_of_ble_eq_true rfl, Nat.le_of_ble_eq_true rfl⟩ (fun E ce q9 S' H1 locs1 ls hp g1 g2 g3 g4 g5 g6 => ?_) (fun r S' hp => ?_)
  · obtain ⟨i, e1, e2, e3⟩ := hp
    rcases i with _ | i
    · obtain rfl : nIO = E := Option.some.inj e1
      refine l_catch B hT (pre := []) (x := (⟨0, 10, 13, 13⟩ : ExceptionTableEntry)) (suf := []) rfl (fun z hz => by cases hz) (by decide) (by decide : (13 : Nat) ≠ 0) (in_ofH qkRL_13) (List.mem_of_getElem? (i := 0) rfl) g1 g2 g3 g4 g5 g6 ?_
      refine k_astore B (Nat.le_of_ble_eq_true rfl) rfl dL_parcel_13 ?_
      refine k_iconst (v := 1) B (by decide) dL_parcel_15 ?_
      exact ret_W B0 rfl dL_parcel_16 (Nat.le_of_ble_eq_true rfl) (Nat.le_of_ble_eq_true rfl) ⟨e2.symm, fun z => absurd z (by decide), e3⟩
    · exact absurd e1 (by simp)
  · obtain ⟨e1, e2, e3⟩ := hp
    refine k_i2l B dL_parcel_8 ?_
    refine k_lastO B0 dL_parcel_9 ?_
    have B1 : Bd p s m args meth c cL_parcel 5 (wsOfH yL_parcel cL_parcel 5 (some .int) [(0, 10, 13, 13)]) RL (wo w out (vp_updL f 0 r.toInt64)) (some .int) "parcel" := B0
    refine k_goto (tgt := 17) B1 dL_parcel_10 (by decide) ?_
    refine k_iconst (v := 0) B1 (by decide) dL_parcel_17 ?_
    exact ret_W B0 rfl dL_parcel_18 (Nat.le_of_ble_eq_true rfl) (Nat.le_of_ble_eq_true rfl) ⟨e1.symm, fun _ => by rw [e2]; exact updL_0, e3⟩
def rL_put : Room := { frames := 10, cells := 4, slots := 24, locals := 206 }
theorem cL_putW {S : St} {out : Nat} {f : Nat → Int64} {x : Nat} {a0 a1 a2 : Int32} {o : Out} (hk : kd S x = 13) (hc : ConXI l yX11_put (wsOf yX11_put cX11_put 7 (some .int)) rX11_put (wo w out f) S [.ref x, .int a0, .int a1, .int a2] (CP (wo w out f) x o) (CE (wo w out f) x [nIO, nIS] o)) :
    ConW l yL_put (wsOfH yL_put cL_put 6 (some .int) [(0, 12, 15, 13), (0, 12, 19, 24)]) rL_put w out f S [.ref x, .int a0, .int a1, .int a2, .ref out] (PW w x o) := by
  refine conW (by decide +kernel) rfl (Nat.le_of_ble_eq_true rfl) (fun p e s m args below meth c B0 hT => ?_)
  have B : Bd p s m args meth c cL_put 6 (wsOfH yL_put cL_put 6 (some .int) [(0, 12, 15, 13), (0, 12, 19, 24)]) RL (wo w out f) (some .int) "put" := B0
  refine k_aload B 4 rfl dL_put_0 ?_
  refine k_iconst (v := 0) B (by decide) dL_put_2 ?_
  refine k_aload_n B 0 rfl rfl dL_put_3 ?_
  refine k_iload_n B 1 rfl rfl dL_put_4 ?_
  refine k_iload_n B 2 rfl rfl dL_put_5 ?_
  refine k_iload_n B 3 rfl rfl dL_put_6 ?_
  refine xcallV_I (st := [.int 0, .ref out]) B [.int a0, .int a1, .int a2] hc (cwV 3 B.1.2.2.2.2 (gVH qlRL_49 qiX11_put qeX11_put qzRX11 qcX11_put) rfl rfl rfl (by decide +kernel) ⟨Nat.le_of_ble_eq_true rfl, Nat.le_of_ble_eq_true rfl⟩) rfl rfl (by decide) hk (Nat.le_of_ble_eq_true rfl) rfl dL_put_7 ⟨Nat.le_of_ble_eq_true rfl, Nat.le_of_ble_eq_true rfl⟩ (fun E ce q9 S' H1 locs1 ls hp g1 g2 g3 g4 g5 g6 => ?_) (fun r S' hp => ?_)
  · obtain ⟨i, e1, e2, e3⟩ := hp
    rcases i with _ | _ | i
    · obtain rfl : nIO = E := Option.some.inj e1
      refine l_catch B hT (pre := []) (x := (⟨0, 12, 15, 13⟩ : ExceptionTableEntry)) (suf := [(⟨0, 12, 19, 24⟩ : ExceptionTableEntry)]) rfl (fun z hz => by cases hz) (by decide) (by decide : (13 : Nat) ≠ 0) (in_ofH qkRL_13) (List.mem_of_getElem? (i := 0) rfl) g1 g2 g3 g4 g5 g6 ?_
      refine k_astore B (Nat.le_of_ble_eq_true rfl) rfl dL_put_15 ?_
      refine k_iconst (v := 1) B (by decide) dL_put_17 ?_
      exact ret_W B0 rfl dL_put_18 (Nat.le_of_ble_eq_true rfl) (Nat.le_of_ble_eq_true rfl) ⟨e2.symm, fun z => absurd z (by decide), e3⟩
    · obtain rfl : nIS = E := Option.some.inj e1
      refine l_catch B hT (pre := [(⟨0, 12, 15, 13⟩ : ExceptionTableEntry)]) (x := (⟨0, 12, 19, 24⟩ : ExceptionTableEntry)) (suf := []) rfl (fun z hz => by
          simp only [List.mem_cons, List.not_mem_nil, or_false] at hz
          rcases hz with rfl
          · exact ⟨(by decide : (13 : Nat) ≠ 0), nIO, in_ofH qkRL_13, List.mem_of_getElem? (i := 4) rfl⟩) (by decide) (by decide : (24 : Nat) ≠ 0) (in_ofH qkRL_24) (List.mem_of_getElem? (i := 2) rfl) g1 g2 g3 g4 g5 g6 ?_
      refine k_astore B (Nat.le_of_ble_eq_true rfl) rfl dL_put_19 ?_
      refine k_iconst (v := 2) B (by decide) dL_put_21 ?_
      exact ret_W B0 rfl dL_put_22 (Nat.le_of_ble_eq_true rfl) (Nat.le_of_ble_eq_true rfl) ⟨e2.symm, fun z => absurd z (by decide), e3⟩
    · exact absurd e1 (by simp)
  · obtain ⟨e1, e2, e3⟩ := hp
    refine k_i2l B dL_put_10 ?_
    refine k_lastO B0 dL_put_11 ?_
    have B1 : Bd p s m args meth c cL_put 6 (wsOfH yL_put cL_put 6 (some .int) [(0, 12, 15, 13), (0, 12, 19, 24)]) RL (wo w out (vp_updL f 0 r.toInt64)) (some .int) "put" := B0
    refine k_goto (tgt := 23) B1 dL_put_12 (by decide) ?_
    refine k_iconst (v := 0) B1 (by decide) dL_put_23 ?_
    exact ret_W B0 rfl dL_put_24 (Nat.le_of_ble_eq_true rfl) (Nat.le_of_ble_eq_true rfl) ⟨e1.symm, fun _ => by rw [e2]; exact updL_0, e3⟩
def rL_take : Room := { frames := 9, cells := 2, slots := 12, locals := 181 }
theorem cL_takeW {S : St} {out : Nat} {f : Nat → Int64} {x : Nat} {a0 : Int32} {o : Out} (hk : kd S x = 13) (hc : ConXI l yX11_take (wsOf yX11_take cX11_take 5 (some .int)) rX11_take (wo w out f) S [.ref x, .int a0] (CP (wo w out f) x o) (CE (wo w out f) x [nIO, nIS] o)) :
    ConW l yL_take (wsOfH yL_take cL_take 4 (some .int) [(0, 9, 12, 13), (0, 9, 15, 24)]) rL_take w out f S [.ref x, .int a0, .ref out] (PW w x o) := by
  refine conW (by decide +kernel) rfl (Nat.le_of_ble_eq_true rfl) (fun p e s m args below meth c B0 hT => ?_)
  have B : Bd p s m args meth c cL_take 4 (wsOfH yL_take cL_take 4 (some .int) [(0, 9, 12, 13), (0, 9, 15, 24)]) RL (wo w out f) (some .int) "take" := B0
  refine k_aload_n B 2 rfl rfl dL_take_0 ?_
  refine k_iconst (v := 0) B (by decide) dL_take_1 ?_
  refine k_aload_n B 0 rfl rfl dL_take_2 ?_
  refine k_iload_n B 1 rfl rfl dL_take_3 ?_
  refine xcallV_I (st := [.int 0, .ref out]) B [.int a0] hc (cwV 1 B.1.2.2.2.2 (gVH qlRL_52 qiX11_take qeX11_take qzRX11 qcX11_take) rfl rfl rfl (by decide +kernel) ⟨Nat.le_of_ble_eq_true rfl, Nat.le_of_ble_eq_true rfl⟩) rfl rfl (by decide) hk (Nat.le_of_ble_eq_true rfl) rfl dL_take_4 ⟨Nat.le_of_ble_eq_true rfl, Nat.le_of_ble_eq_true rfl⟩ (fun E ce q9 S' H1 locs1 ls hp g1 g2 g3 g4 g5 g6 => ?_) (fun r S' hp => ?_)
  · obtain ⟨i, e1, e2, e3⟩ := hp
    rcases i with _ | _ | i
    · obtain rfl : nIO = E := Option.some.inj e1
      refine l_catch B hT (pre := []) (x := (⟨0, 9, 12, 13⟩ : ExceptionTableEntry)) (suf := [(⟨0, 9, 15, 24⟩ : ExceptionTableEntry)]) rfl (fun z hz => by cases hz) (by decide) (by decide : (13 : Nat) ≠ 0) (in_ofH qkRL_13) (List.mem_of_getElem? (i := 0) rfl) g1 g2 g3 g4 g5 g6 ?_
      refine k_astore_n B rfl (Nat.le_of_ble_eq_true rfl) rfl dL_take_12 ?_
      refine k_iconst (v := 1) B (by decide) dL_take_13 ?_
      exact ret_W B0 rfl dL_take_14 (Nat.le_of_ble_eq_true rfl) (Nat.le_of_ble_eq_true rfl) ⟨e2.symm, fun z => absurd z (by decide), e3⟩
    · obtain rfl : nIS = E := Option.some.inj e1
      refine l_catch B hT (pre := [(⟨0, 9, 12, 13⟩ : ExceptionTableEntry)]) (x := (⟨0, 9, 15, 24⟩ : ExceptionTableEntry)) (suf := []) rfl (fun z hz => by
          simp only [List.mem_cons, List.not_mem_nil, or_false] at hz
          rcases hz with rfl
          · exact ⟨(by decide : (13 : Nat) ≠ 0), nIO, in_ofH qkRL_13, List.mem_of_getElem? (i := 4) rfl⟩) (by decide) (by decide : (24 : Nat) ≠ 0) (in_ofH qkRL_24) (List.mem_of_getElem? (i := 2) rfl) g1 g2 g3 g4 g5 g6 ?_
      refine k_astore_n B rfl (Nat.le_of_ble_eq_true rfl) rfl dL_take_15 ?_
      refine k_iconst (v := 2) B (by decide) dL_take_16 ?_
      exact ret_W B0 rfl dL_take_17 (Nat.le_of_ble_eq_true rfl) (Nat.le_of_ble_eq_true rfl) ⟨e2.symm, fun z => absurd z (by decide), e3⟩
    · exact absurd e1 (by simp)
  · obtain ⟨e1, e2, e3⟩ := hp
    refine k_i2l B dL_take_7 ?_
    refine k_lastO B0 dL_take_8 ?_
    have B1 : Bd p s m args meth c cL_take 4 (wsOfH yL_take cL_take 4 (some .int) [(0, 9, 12, 13), (0, 9, 15, 24)]) RL (wo w out (vp_updL f 0 r.toInt64)) (some .int) "take" := B0
    refine k_goto (tgt := 18) B1 dL_take_9 (by decide) ?_
    refine k_iconst (v := 0) B1 (by decide) dL_take_18 ?_
    exact ret_W B0 rfl dL_take_19 (Nat.le_of_ble_eq_true rfl) (Nat.le_of_ble_eq_true rfl) ⟨e1.symm, fun _ => by rw [e2]; exact updL_0, e3⟩
def rL_route : Room := { frames := 10, cells := 2, slots := 12, locals := 201 }
theorem cL_routeW {S : St} {out : Nat} {f : Nat → Int64} {x : Nat} {a0 a1 : Int32} {o : Out} (hk : kd S x = 13) (hc : ConXI l yX11_route (wsOf yX11_route cX11_route 3 (some .int)) rX11_route (wo w out f) S [.ref x, .int a0, .int a1] (CP (wo w out f) x o) (CE (wo w out f) x [nIO] o)) :
    ConW l yL_route (wsOfH yL_route cL_route 5 (some .int) [(0, 10, 13, 13)]) rL_route w out f S [.ref x, .int a0, .int a1, .ref out] (PW w x o) := by
  refine conW (by decide +kernel) rfl (Nat.le_of_ble_eq_true rfl) (fun p e s m args below meth c B0 hT => ?_)
  have B : Bd p s m args meth c cL_route 5 (wsOfH yL_route cL_route 5 (some .int) [(0, 10, 13, 13)]) RL (wo w out f) (some .int) "route" := B0
  refine k_aload_n B 3 rfl rfl dL_route_0 ?_
  refine k_iconst (v := 0) B (by decide) dL_route_1 ?_
  refine k_aload_n B 0 rfl rfl dL_route_2 ?_
  refine k_iload_n B 1 rfl rfl dL_route_3 ?_
  refine k_iload_n B 2 rfl rfl dL_route_4 ?_
  refine xcallV_I (st := [.int 0, .ref out]) B [.int a0, .int a1] hc (cwV 2 B.1.2.2.2.2 (gVH qlRL_56 qiX11_route qeX11_route qzRX11 qcX11_route) rfl rfl rfl (by decide +kernel) ⟨Nat.le_of_ble_eq_true rfl, Nat.le_of_ble_eq_true rfl⟩) rfl rfl (by decide) hk (Nat.le_of_ble_eq_true rfl) rfl dL_route_5 ⟨Nat.le_of_ble_eq_true rfl, Nat.le_of_ble_eq_true rfl⟩ (fun E ce q9 S' H1 locs1 ls hp g1 g2 g3 g4 g5 g6 => ?_) (fun r S' hp => ?_)
  · obtain ⟨i, e1, e2, e3⟩ := hp
    rcases i with _ | i
    · obtain rfl : nIO = E := Option.some.inj e1
      refine l_catch B hT (pre := []) (x := (⟨0, 10, 13, 13⟩ : ExceptionTableEntry)) (suf := []) rfl (fun z hz => by cases hz) (by decide) (by decide : (13 : Nat) ≠ 0) (in_ofH qkRL_13) (List.mem_of_getElem? (i := 0) rfl) g1 g2 g3 g4 g5 g6 ?_
      refine k_astore B (Nat.le_of_ble_eq_true rfl) rfl dL_route_13 ?_
      refine k_iconst (v := 1) B (by decide) dL_route_15 ?_
      exact ret_W B0 rfl dL_route_16 (Nat.le_of_ble_eq_true rfl) (Nat.le_of_ble_eq_true rfl) ⟨e2.symm, fun z => absurd z (by decide), e3⟩
    · exact absurd e1 (by simp)
  · obtain ⟨e1, e2, e3⟩ := hp
    refine k_i2l B dL_route_8 ?_
    refine k_lastO B0 dL_route_9 ?_
    have B1 : Bd p s m args meth c cL_route 5 (wsOfH yL_route cL_route 5 (some .int) [(0, 10, 13, 13)]) RL (wo w out (vp_updL f 0 r.toInt64)) (some .int) "route" := B0
    refine k_goto (tgt := 17) B1 dL_route_10 (by decide) ?_
    refine k_iconst (v := 0) B1 (by decide) dL_route_17 ?_
    exact ret_W B0 rfl dL_route_18 (Nat.le_of_ble_eq_true rfl) (Nat.le_of_ble_eq_true rfl) ⟨e1.symm, fun _ => by rw [e2]; exact updL_0, e3⟩
def rL_van : Room := { frames := 9, cells := 2, slots := 12, locals := 179 }
theorem cL_vanW {S : St} {out : Nat} {f : Nat → Int64} {x : Nat} {a0 a1 : Int32} {o : Out} (hk : kd S x = 13) (hc : ConXI l yX11_van (wsOf yX11_van cX11_van 3 (some .int)) rX11_van (wo w out f) S [.ref x, .int a0, .int a1] (CP (wo w out f) x o) (CE (wo w out f) x [nIO] o)) :
    ConW l yL_van (wsOfH yL_van cL_van 5 (some .int) [(0, 10, 13, 13)]) rL_van w out f S [.ref x, .int a0, .int a1, .ref out] (PW w x o) := by
  refine conW (by decide +kernel) rfl (Nat.le_of_ble_eq_true rfl) (fun p e s m args below meth c B0 hT => ?_)
  have B : Bd p s m args meth c cL_van 5 (wsOfH yL_van cL_van 5 (some .int) [(0, 10, 13, 13)]) RL (wo w out f) (some .int) "van" := B0
  refine k_aload_n B 3 rfl rfl dL_van_0 ?_
  refine k_iconst (v := 0) B (by decide) dL_van_1 ?_
  refine k_aload_n B 0 rfl rfl dL_van_2 ?_
  refine k_iload_n B 1 rfl rfl dL_van_3 ?_
  refine k_iload_n B 2 rfl rfl dL_van_4 ?_
  refine xcallV_I (st := [.int 0, .ref out]) B [.int a0, .int a1] hc (cwV 2 B.1.2.2.2.2 (gVH qlRL_59 qiX11_van qeX11_van qzRX11 qcX11_van) rfl rfl rfl (by decide +kernel) ⟨Nat.le_of_ble_eq_true rfl, Nat.le_of_ble_eq_true rfl⟩) rfl rfl (by decide) hk (Nat.le_of_ble_eq_true rfl) rfl dL_van_5 ⟨Nat.le_of_ble_eq_true rfl, Nat.le_of_ble_eq_true rfl⟩ (fun E ce q9 S' H1 locs1 ls hp g1 g2 g3 g4 g5 g6 => ?_) (fun r S' hp => ?_)
  · obtain ⟨i, e1, e2, e3⟩ := hp
    rcases i with _ | i
    · obtain rfl : nIO = E := Option.some.inj e1
      refine l_catch B hT (pre := []) (x := (⟨0, 10, 13, 13⟩ : ExceptionTableEntry)) (suf := []) rfl (fun z hz => by cases hz) (by decide) (by decide : (13 : Nat) ≠ 0) (in_ofH qkRL_13) (List.mem_of_getElem? (i := 0) rfl) g1 g2 g3 g4 g5 g6 ?_
      refine k_astore B (Nat.le_of_ble_eq_true rfl) rfl dL_van_13 ?_
      refine k_iconst (v := 1) B (by decide) dL_van_15 ?_
      exact ret_W B0 rfl dL_van_16 (Nat.le_of_ble_eq_true rfl) (Nat.le_of_ble_eq_true rfl) ⟨e2.symm, fun z => absurd z (by decide), e3⟩
    · exact absurd e1 (by simp)
  · obtain ⟨e1, e2, e3⟩ := hp
    refine k_i2l B dL_van_8 ?_
    refine k_lastO B0 dL_van_9 ?_
    have B1 : Bd p s m args meth c cL_van 5 (wsOfH yL_van cL_van 5 (some .int) [(0, 10, 13, 13)]) RL (wo w out (vp_updL f 0 r.toInt64)) (some .int) "van" := B0
    refine k_goto (tgt := 17) B1 dL_van_10 (by decide) ?_
    refine k_iconst (v := 0) B1 (by decide) dL_van_17 ?_
    exact ret_W B0 rfl dL_van_18 (Nat.le_of_ble_eq_true rfl) (Nat.le_of_ble_eq_true rfl) ⟨e1.symm, fun _ => by rw [e2]; exact updL_0, e3⟩
def rL_stop : Room := { frames := 10, cells := 3, slots := 18, locals := 204 }
theorem cL_stopW {S : St} {out : Nat} {f : Nat → Int64} {x : Nat} {a0 a1 a2 : Int32} {o : Out} (hk : kd S x = 13) (hc : ConXI l yX11_stop (wsOf yX11_stop cX11_stop 6 (some .int)) rX11_stop (wo w out f) S [.ref x, .int a0, .int a1, .int a2] (CP (wo w out f) x o) (CE (wo w out f) x [nIO] o)) :
    ConW l yL_stop (wsOfH yL_stop cL_stop 6 (some .int) [(0, 12, 15, 13)]) rL_stop w out f S [.ref x, .int a0, .int a1, .int a2, .ref out] (PW w x o) := by
  refine conW (by decide +kernel) rfl (Nat.le_of_ble_eq_true rfl) (fun p e s m args below meth c B0 hT => ?_)
  have B : Bd p s m args meth c cL_stop 6 (wsOfH yL_stop cL_stop 6 (some .int) [(0, 12, 15, 13)]) RL (wo w out f) (some .int) "stop" := B0
  refine k_aload B 4 rfl dL_stop_0 ?_
  refine k_iconst (v := 0) B (by decide) dL_stop_2 ?_
  refine k_aload_n B 0 rfl rfl dL_stop_3 ?_
  refine k_iload_n B 1 rfl rfl dL_stop_4 ?_
  refine k_iload_n B 2 rfl rfl dL_stop_5 ?_
  refine k_iload_n B 3 rfl rfl dL_stop_6 ?_
  refine xcallV_I (st := [.int 0, .ref out]) B [.int a0, .int a1, .int a2] hc (cwV 3 B.1.2.2.2.2 (gVH qlRL_62 qiX11_stop qeX11_stop qzRX11 qcX11_stop) rfl rfl rfl (by decide +kernel) ⟨Nat.le_of_ble_eq_true rfl, Nat.le_of_ble_eq_true rfl⟩) rfl rfl (by decide) hk (Nat.le_of_ble_eq_true rfl) rfl dL_stop_7 ⟨Nat.le_of_ble_eq_true rfl, Nat.le_of_ble_eq_true rfl⟩ (fun E ce q9 S' H1 locs1 ls hp g1 g2 g3 g4 g5 g6 => ?_) (fun r S' hp => ?_)
  · obtain ⟨i, e1, e2, e3⟩ := hp
    rcases i with _ | i
    · obtain rfl : nIO = E := Option.some.inj e1
      refine l_catch B hT (pre := []) (x := (⟨0, 12, 15, 13⟩ : ExceptionTableEntry)) (suf := []) rfl (fun z hz => by cases hz) (by decide) (by decide : (13 : Nat) ≠ 0) (in_ofH qkRL_13) (List.mem_of_getElem? (i := 0) rfl) g1 g2 g3 g4 g5 g6 ?_
      refine k_astore B (Nat.le_of_ble_eq_true rfl) rfl dL_stop_15 ?_
      refine k_iconst (v := 1) B (by decide) dL_stop_17 ?_
      exact ret_W B0 rfl dL_stop_18 (Nat.le_of_ble_eq_true rfl) (Nat.le_of_ble_eq_true rfl) ⟨e2.symm, fun z => absurd z (by decide), e3⟩
    · exact absurd e1 (by simp)
  · obtain ⟨e1, e2, e3⟩ := hp
    refine k_i2l B dL_stop_10 ?_
    refine k_lastO B0 dL_stop_11 ?_
    have B1 : Bd p s m args meth c cL_stop 6 (wsOfH yL_stop cL_stop 6 (some .int) [(0, 12, 15, 13)]) RL (wo w out (vp_updL f 0 r.toInt64)) (some .int) "stop" := B0
    refine k_goto (tgt := 19) B1 dL_stop_12 (by decide) ?_
    refine k_iconst (v := 0) B1 (by decide) dL_stop_19 ?_
    exact ret_W B0 rfl dL_stop_20 (Nat.le_of_ble_eq_true rfl) (Nat.le_of_ble_eq_true rfl) ⟨e1.symm, fun _ => by rw [e2]; exact updL_0, e3⟩
def rL_adds : Room := { frames := 10, cells := 3, slots := 18, locals := 203 }
theorem cL_addsW {S : St} {out : Nat} {f : Nat → Int64} {x : Nat} {a0 a1 a2 : Int32} {o : Out} (hk : kd S x = 13) (hc : ConXI l yX11_adds (wsOf yX11_adds cX11_adds 4 (some .int)) rX11_adds (wo w out f) S [.ref x, .int a0, .int a1, .int a2] (CP (wo w out f) x o) (CE (wo w out f) x [nIO] o)) :
    ConW l yL_adds (wsOfH yL_adds cL_adds 6 (some .int) [(0, 12, 15, 13)]) rL_adds w out f S [.ref x, .int a0, .int a1, .int a2, .ref out] (PW w x o) := by
  refine conW (by decide +kernel) rfl (Nat.le_of_ble_eq_true rfl) (fun p e s m args below meth c B0 hT => ?_)
  have B : Bd p s m args meth c cL_adds 6 (wsOfH yL_adds cL_adds 6 (some .int) [(0, 12, 15, 13)]) RL (wo w out f) (some .int) "adds" := B0
  refine k_aload B 4 rfl dL_adds_0 ?_
  refine k_iconst (v := 0) B (by decide) dL_adds_2 ?_
  refine k_aload_n B 0 rfl rfl dL_adds_3 ?_
  refine k_iload_n B 1 rfl rfl dL_adds_4 ?_
  refine k_iload_n B 2 rfl rfl dL_adds_5 ?_
  refine k_iload_n B 3 rfl rfl dL_adds_6 ?_
  refine xcallV_I (st := [.int 0, .ref out]) B [.int a0, .int a1, .int a2] hc (cwV 3 B.1.2.2.2.2 (gVH qlRL_65 qiX11_adds qeX11_adds qzRX11 qcX11_adds) rfl rfl rfl (by decide +kernel) ⟨Nat.le_of_ble_eq_true rfl, Nat.le_of_ble_eq_true rfl⟩) rfl rfl (by decide) hk (Nat.le_of_ble_eq_true rfl) rfl dL_adds_7 ⟨Nat.le_of_ble_eq_true rfl, Nat.le_of_ble_eq_true rfl⟩ (fun E ce q9 S' H1 locs1 ls hp g1 g2 g3 g4 g5 g6 => ?_) (fun r S' hp => ?_)
  · obtain ⟨i, e1, e2, e3⟩ := hp
    rcases i with _ | i
    · obtain rfl : nIO = E := Option.some.inj e1
      refine l_catch B hT (pre := []) (x := (⟨0, 12, 15, 13⟩ : ExceptionTableEntry)) (suf := []) rfl (fun z hz => by cases hz) (by decide) (by decide : (13 : Nat) ≠ 0) (in_ofH qkRL_13) (List.mem_of_getElem? (i := 0) rfl) g1 g2 g3 g4 g5 g6 ?_
      refine k_astore B (Nat.le_of_ble_eq_true rfl) rfl dL_adds_15 ?_
      refine k_iconst (v := 1) B (by decide) dL_adds_17 ?_
      exact ret_W B0 rfl dL_adds_18 (Nat.le_of_ble_eq_true rfl) (Nat.le_of_ble_eq_true rfl) ⟨e2.symm, fun z => absurd z (by decide), e3⟩
    · exact absurd e1 (by simp)
  · obtain ⟨e1, e2, e3⟩ := hp
    refine k_i2l B dL_adds_10 ?_
    refine k_lastO B0 dL_adds_11 ?_
    have B1 : Bd p s m args meth c cL_adds 6 (wsOfH yL_adds cL_adds 6 (some .int) [(0, 12, 15, 13)]) RL (wo w out (vp_updL f 0 r.toInt64)) (some .int) "adds" := B0
    refine k_goto (tgt := 19) B1 dL_adds_12 (by decide) ?_
    refine k_iconst (v := 0) B1 (by decide) dL_adds_19 ?_
    exact ret_W B0 rfl dL_adds_20 (Nat.le_of_ble_eq_true rfl) (Nat.le_of_ble_eq_true rfl) ⟨e1.symm, fun _ => by rw [e2]; exact updL_0, e3⟩
def rL_cheapest : Room := { frames := 9, cells := 1, slots := 6, locals := 179 }
theorem cL_cheapestW {S : St} {out : Nat} {f : Nat → Int64} {x : Nat} {a0 : Int32} {o : Out} (hk : kd S x = 13) (hc : ConXI l yX11_cheapest (wsOf yX11_cheapest cX11_cheapest 3 (some .int)) rX11_cheapest (wo w out f) S [.ref x, .int a0] (CP (wo w out f) x o) (CE (wo w out f) x [nIO] o)) :
    ConW l yL_cheapest (wsOfH yL_cheapest cL_cheapest 4 (some .int) [(0, 9, 12, 13)]) rL_cheapest w out f S [.ref x, .int a0, .ref out] (PW w x o) := by
  refine conW (by decide +kernel) rfl (Nat.le_of_ble_eq_true rfl) (fun p e s m args below meth c B0 hT => ?_)
  have B : Bd p s m args meth c cL_cheapest 4 (wsOfH yL_cheapest cL_cheapest 4 (some .int) [(0, 9, 12, 13)]) RL (wo w out f) (some .int) "cheapest" := B0
  refine k_aload_n B 2 rfl rfl dL_cheapest_0 ?_
  refine k_iconst (v := 0) B (by decide) dL_cheapest_1 ?_
  refine k_aload_n B 0 rfl rfl dL_cheapest_2 ?_
  refine k_iload_n B 1 rfl rfl dL_cheapest_3 ?_
  refine xcallV_I (st := [.int 0, .ref out]) B [.int a0] hc (cwV 1 B.1.2.2.2.2 (gVH qlRL_68 qiX11_cheapest qeX11_cheapest qzRX11 qcX11_cheapest) rfl rfl rfl (by decide +kernel) ⟨Nat.le_of_ble_eq_true rfl, Nat.le_of_ble_eq_true rfl⟩) rfl rfl (by decide) hk (Nat.le_of_ble_eq_true rfl) rfl dL_cheapest_4 ⟨Nat.le_of_ble_eq_true rfl, Nat.le_of_ble_eq_true rfl⟩ (fun E ce q9 S' H1 locs1 ls hp g1 g2 g3 g4 g5 g6 => ?_) (fun r S' hp => ?_)
  · obtain ⟨i, e1, e2, e3⟩ := hp
    rcases i with _ | i
    · obtain rfl : nIO = E := Option.some.inj e1
      refine l_catch B hT (pre := []) (x := (⟨0, 9, 12, 13⟩ : ExceptionTableEntry)) (suf := []) rfl (fun z hz => by cases hz) (by decide) (by decide : (13 : Nat) ≠ 0) (in_ofH qkRL_13) (List.mem_of_getElem? (i := 0) rfl) g1 g2 g3 g4 g5 g6 ?_
      refine k_astore_n B rfl (Nat.le_of_ble_eq_true rfl) rfl dL_cheapest_12 ?_
      refine k_iconst (v := 1) B (by decide) dL_cheapest_13 ?_
      exact ret_W B0 rfl dL_cheapest_14 (Nat.le_of_ble_eq_true rfl) (Nat.le_of_ble_eq_true rfl) ⟨e2.symm, fun z => absurd z (by decide), e3⟩
    · exact absurd e1 (by simp)
  · obtain ⟨e1, e2, e3⟩ := hp
    refine k_i2l B dL_cheapest_7 ?_
    refine k_lastO B0 dL_cheapest_8 ?_
    have B1 : Bd p s m args meth c cL_cheapest 4 (wsOfH yL_cheapest cL_cheapest 4 (some .int) [(0, 9, 12, 13)]) RL (wo w out (vp_updL f 0 r.toInt64)) (some .int) "cheapest" := B0
    refine k_goto (tgt := 15) B1 dL_cheapest_9 (by decide) ?_
    refine k_iconst (v := 0) B1 (by decide) dL_cheapest_15 ?_
    exact ret_W B0 rfl dL_cheapest_16 (Nat.le_of_ble_eq_true rfl) (Nat.le_of_ble_eq_true rfl) ⟨e1.symm, fun _ => by rw [e2]; exact updL_0, e3⟩
def rL_improve : Room := { frames := 9, cells := 1, slots := 6, locals := 186 }
theorem cL_improveW {S : St} {out : Nat} {f : Nat → Int64} {x : Nat} {a0 : Int32} {o : Out} (hk : kd S x = 13) (hc : ConXI l yX11_improve (wsOf yX11_improve cX11_improve 10 (some .int)) rX11_improve (wo w out f) S [.ref x, .int a0] (CP (wo w out f) x o) (CE (wo w out f) x [nIO] o)) :
    ConW l yL_improve (wsOfH yL_improve cL_improve 4 (some .int) [(0, 9, 12, 13)]) rL_improve w out f S [.ref x, .int a0, .ref out] (PW w x o) := by
  refine conW (by decide +kernel) rfl (Nat.le_of_ble_eq_true rfl) (fun p e s m args below meth c B0 hT => ?_)
  have B : Bd p s m args meth c cL_improve 4 (wsOfH yL_improve cL_improve 4 (some .int) [(0, 9, 12, 13)]) RL (wo w out f) (some .int) "improve" := B0
  refine k_aload_n B 2 rfl rfl dL_improve_0 ?_
  refine k_iconst (v := 0) B (by decide) dL_improve_1 ?_
  refine k_aload_n B 0 rfl rfl dL_improve_2 ?_
  refine k_iload_n B 1 rfl rfl dL_improve_3 ?_
  refine xcallV_I (st := [.int 0, .ref out]) B [.int a0] hc (cwV 1 B.1.2.2.2.2 (gVH qlRL_71 qiX11_improve qeX11_improve qzRX11 qcX11_improve) rfl rfl rfl (by decide +kernel) ⟨Nat.le_of_ble_eq_true rfl, Nat.le_of_ble_eq_true rfl⟩) rfl rfl (by decide) hk (Nat.le_of_ble_eq_true rfl) rfl dL_improve_4 ⟨Nat.le_of_ble_eq_true rfl, Nat.le_of_ble_eq_true rfl⟩ (fun E ce q9 S' H1 locs1 ls hp g1 g2 g3 g4 g5 g6 => ?_) (fun r S' hp => ?_)
  · obtain ⟨i, e1, e2, e3⟩ := hp
    rcases i with _ | i
    · obtain rfl : nIO = E := Option.some.inj e1
      refine l_catch B hT (pre := []) (x := (⟨0, 9, 12, 13⟩ : ExceptionTableEntry)) (suf := []) rfl (fun z hz => by cases hz) (by decide) (by decide : (13 : Nat) ≠ 0) (in_ofH qkRL_13) (List.mem_of_getElem? (i := 0) rfl) g1 g2 g3 g4 g5 g6 ?_
      refine k_astore_n B rfl (Nat.le_of_ble_eq_true rfl) rfl dL_improve_12 ?_
      refine k_iconst (v := 1) B (by decide) dL_improve_13 ?_
      exact ret_W B0 rfl dL_improve_14 (Nat.le_of_ble_eq_true rfl) (Nat.le_of_ble_eq_true rfl) ⟨e2.symm, fun z => absurd z (by decide), e3⟩
    · exact absurd e1 (by simp)
  · obtain ⟨e1, e2, e3⟩ := hp
    refine k_i2l B dL_improve_7 ?_
    refine k_lastO B0 dL_improve_8 ?_
    have B1 : Bd p s m args meth c cL_improve 4 (wsOfH yL_improve cL_improve 4 (some .int) [(0, 9, 12, 13)]) RL (wo w out (vp_updL f 0 r.toInt64)) (some .int) "improve" := B0
    refine k_goto (tgt := 15) B1 dL_improve_9 (by decide) ?_
    refine k_iconst (v := 0) B1 (by decide) dL_improve_15 ?_
    exact ret_W B0 rfl dL_improve_16 (Nat.le_of_ble_eq_true rfl) (Nat.le_of_ble_eq_true rfl) ⟨e1.symm, fun _ => by rw [e2]; exact updL_0, e3⟩
def rL_count : Room := { frames := 9, cells := 1, slots := 6, locals := 199 }
theorem cL_countW {S : St} {out : Nat} {f : Nat → Int64} {x : Nat} {a0 : Int32} {o : Out} (hk : kd S x = 13) (hc : ConXI l yX11_count (wsOf yX11_count cX11_count 2 (some .int)) rX11_count (wo w out f) S [.ref x, .int a0] (CP (wo w out f) x o) (CE (wo w out f) x [nIO] o)) :
    ConW l yL_count (wsOfH yL_count cL_count 4 (some .int) [(0, 9, 12, 13)]) rL_count w out f S [.ref x, .int a0, .ref out] (PW w x o) := by
  refine conW (by decide +kernel) rfl (Nat.le_of_ble_eq_true rfl) (fun p e s m args below meth c B0 hT => ?_)
  have B : Bd p s m args meth c cL_count 4 (wsOfH yL_count cL_count 4 (some .int) [(0, 9, 12, 13)]) RL (wo w out f) (some .int) "count" := B0
  refine k_aload_n B 2 rfl rfl dL_count_0 ?_
  refine k_iconst (v := 0) B (by decide) dL_count_1 ?_
  refine k_aload_n B 0 rfl rfl dL_count_2 ?_
  refine k_iload_n B 1 rfl rfl dL_count_3 ?_
  refine xcallV_I (st := [.int 0, .ref out]) B [.int a0] hc (cwV 1 B.1.2.2.2.2 (gVH qlRL_74 qiX11_count qeX11_count qzRX11 qcX11_count) rfl rfl rfl (by decide +kernel) ⟨Nat.le_of_ble_eq_true rfl, Nat.le_of_ble_eq_true rfl⟩) rfl rfl (by decide) hk (Nat.le_of_ble_eq_true rfl) rfl dL_count_4 ⟨Nat.le_of_ble_eq_true rfl, Nat.le_of_ble_eq_true rfl⟩ (fun E ce q9 S' H1 locs1 ls hp g1 g2 g3 g4 g5 g6 => ?_) (fun r S' hp => ?_)
  · obtain ⟨i, e1, e2, e3⟩ := hp
    rcases i with _ | i
    · obtain rfl : nIO = E := Option.some.inj e1
      refine l_catch B hT (pre := []) (x := (⟨0, 9, 12, 13⟩ : ExceptionTableEntry)) (suf := []) rfl (fun z hz => by cases hz) (by decide) (by decide : (13 : Nat) ≠ 0) (in_ofH qkRL_13) (List.mem_of_getElem? (i := 0) rfl) g1 g2 g3 g4 g5 g6 ?_
      refine k_astore_n B rfl (Nat.le_of_ble_eq_true rfl) rfl dL_count_12 ?_
      refine k_iconst (v := 1) B (by decide) dL_count_13 ?_
      exact ret_W B0 rfl dL_count_14 (Nat.le_of_ble_eq_true rfl) (Nat.le_of_ble_eq_true rfl) ⟨e2.symm, fun z => absurd z (by decide), e3⟩
    · exact absurd e1 (by simp)
  · obtain ⟨e1, e2, e3⟩ := hp
    refine k_i2l B dL_count_7 ?_
    refine k_lastO B0 dL_count_8 ?_
    have B1 : Bd p s m args meth c cL_count 4 (wsOfH yL_count cL_count 4 (some .int) [(0, 9, 12, 13)]) RL (wo w out (vp_updL f 0 r.toInt64)) (some .int) "count" := B0
    refine k_goto (tgt := 15) B1 dL_count_9 (by decide) ?_
    refine k_iconst (v := 0) B1 (by decide) dL_count_15 ?_
    exact ret_W B0 rfl dL_count_16 (Nat.le_of_ble_eq_true rfl) (Nat.le_of_ble_eq_true rfl) ⟨e1.symm, fun _ => by rw [e2]; exact updL_0, e3⟩
def rL_foresee : Room := { frames := 9, cells := 1, slots := 6, locals := 250 }
theorem cL_foreseeW {S : St} {out : Nat} {f : Nat → Int64} {x : Nat} {a0 : Int32} {o : Out} (hk : kd S x = 13) (hc : ConXI l yX11_foresee (wsOf yX11_foresee cX11_foresee 4 (some .int)) rX11_foresee (wo w out f) S [.ref x, .int a0] (CP (wo w out f) x o) (CE (wo w out f) x [nIO] o)) :
    ConW l yL_foresee (wsOfH yL_foresee cL_foresee 4 (some .int) [(0, 9, 12, 13)]) rL_foresee w out f S [.ref x, .int a0, .ref out] (PW w x o) := by
  refine conW (by decide +kernel) rfl (Nat.le_of_ble_eq_true rfl) (fun p e s m args below meth c B0 hT => ?_)
  have B : Bd p s m args meth c cL_foresee 4 (wsOfH yL_foresee cL_foresee 4 (some .int) [(0, 9, 12, 13)]) RL (wo w out f) (some .int) "foresee" := B0
  refine k_aload_n B 2 rfl rfl dL_foresee_0 ?_
  refine k_iconst (v := 0) B (by decide) dL_foresee_1 ?_
  refine k_aload_n B 0 rfl rfl dL_foresee_2 ?_
  refine k_iload_n B 1 rfl rfl dL_foresee_3 ?_
  refine xcallV_I (st := [.int 0, .ref out]) B [.int a0] hc (cwV 1 B.1.2.2.2.2 (gVH qlRL_77 qiX11_foresee qeX11_foresee qzRX11 qcX11_foresee) rfl rfl rfl (by decide +kernel) ⟨Nat.le_of_ble_eq_true rfl, Nat.le_of_ble_eq_true rfl⟩) rfl rfl (by decide) hk (Nat.le_of_ble_eq_true rfl) rfl dL_foresee_4 ⟨Nat.le_of_ble_eq_true rfl, Nat.le_of_ble_eq_true rfl⟩ (fun E ce q9 S' H1 locs1 ls hp g1 g2 g3 g4 g5 g6 => ?_) (fun r S' hp => ?_)
  · obtain ⟨i, e1, e2, e3⟩ := hp
    rcases i with _ | i
    · obtain rfl : nIO = E := Option.some.inj e1
      refine l_catch B hT (pre := []) (x := (⟨0, 9, 12, 13⟩ : ExceptionTableEntry)) (suf := []) rfl (fun z hz => by cases hz) (by decide) (by decide : (13 : Nat) ≠ 0) (in_ofH qkRL_13) (List.mem_of_getElem? (i := 0) rfl) g1 g2 g3 g4 g5 g6 ?_
      refine k_astore_n B rfl (Nat.le_of_ble_eq_true rfl) rfl dL_foresee_12 ?_
      refine k_iconst (v := 1) B (by decide) dL_foresee_13 ?_
      exact ret_W B0 rfl dL_foresee_14 (Nat.le_of_ble_eq_true rfl) (Nat.le_of_ble_eq_true rfl) ⟨e2.symm, fun z => absurd z (by decide), e3⟩
    · exact absurd e1 (by simp)
  · obtain ⟨e1, e2, e3⟩ := hp
    refine k_i2l B dL_foresee_7 ?_
    refine k_lastO B0 dL_foresee_8 ?_
    have B1 : Bd p s m args meth c cL_foresee 4 (wsOfH yL_foresee cL_foresee 4 (some .int) [(0, 9, 12, 13)]) RL (wo w out (vp_updL f 0 r.toInt64)) (some .int) "foresee" := B0
    refine k_goto (tgt := 15) B1 dL_foresee_9 (by decide) ?_
    refine k_iconst (v := 0) B1 (by decide) dL_foresee_15 ?_
    exact ret_W B0 rfl dL_foresee_16 (Nat.le_of_ble_eq_true rfl) (Nat.le_of_ble_eq_true rfl) ⟨e1.symm, fun _ => by rw [e2]; exact updL_0, e3⟩
def rL_hour : Room := { frames := 9, cells := 1, slots := 6, locals := 183 }
theorem cL_hourW {S : St} {out : Nat} {f : Nat → Int64} {x : Nat} {a0 : Int32} {o : Out} (hk : kd S x = 13) (hc : ConXI l yX11_hour (wsOf yX11_hour cX11_hour 7 (some .int)) rX11_hour (wo w out f) S [.ref x, .int a0] (CP (wo w out f) x o) (CE (wo w out f) x [nIO] o)) :
    ConW l yL_hour (wsOfH yL_hour cL_hour 4 (some .int) [(0, 9, 12, 13)]) rL_hour w out f S [.ref x, .int a0, .ref out] (PW w x o) := by
  refine conW (by decide +kernel) rfl (Nat.le_of_ble_eq_true rfl) (fun p e s m args below meth c B0 hT => ?_)
  have B : Bd p s m args meth c cL_hour 4 (wsOfH yL_hour cL_hour 4 (some .int) [(0, 9, 12, 13)]) RL (wo w out f) (some .int) "hour" := B0
  refine k_aload_n B 2 rfl rfl dL_hour_0 ?_
  refine k_iconst (v := 0) B (by decide) dL_hour_1 ?_
  refine k_aload_n B 0 rfl rfl dL_hour_2 ?_
  refine k_iload_n B 1 rfl rfl dL_hour_3 ?_
  refine xcallV_I (st := [.int 0, .ref out]) B [.int a0] hc (cwV 1 B.1.2.2.2.2 (gVH qlRL_80 qiX11_hour qeX11_hour qzRX11 qcX11_hour) rfl rfl rfl (by decide +kernel) ⟨Nat.le_of_ble_eq_true rfl, Nat.le_of_ble_eq_true rfl⟩) rfl rfl (by decide) hk (Nat.le_of_ble_eq_true rfl) rfl dL_hour_4 ⟨Nat.le_of_ble_eq_true rfl, Nat.le_of_ble_eq_true rfl⟩ (fun E ce q9 S' H1 locs1 ls hp g1 g2 g3 g4 g5 g6 => ?_) (fun r S' hp => ?_)
  · obtain ⟨i, e1, e2, e3⟩ := hp
    rcases i with _ | i
    · obtain rfl : nIO = E := Option.some.inj e1
      refine l_catch B hT (pre := []) (x := (⟨0, 9, 12, 13⟩ : ExceptionTableEntry)) (suf := []) rfl (fun z hz => by cases hz) (by decide) (by decide : (13 : Nat) ≠ 0) (in_ofH qkRL_13) (List.mem_of_getElem? (i := 0) rfl) g1 g2 g3 g4 g5 g6 ?_
      refine k_astore_n B rfl (Nat.le_of_ble_eq_true rfl) rfl dL_hour_12 ?_
      refine k_iconst (v := 1) B (by decide) dL_hour_13 ?_
      exact ret_W B0 rfl dL_hour_14 (Nat.le_of_ble_eq_true rfl) (Nat.le_of_ble_eq_true rfl) ⟨e2.symm, fun z => absurd z (by decide), e3⟩
    · exact absurd e1 (by simp)
  · obtain ⟨e1, e2, e3⟩ := hp
    refine k_i2l B dL_hour_7 ?_
    refine k_lastO B0 dL_hour_8 ?_
    have B1 : Bd p s m args meth c cL_hour 4 (wsOfH yL_hour cL_hour 4 (some .int) [(0, 9, 12, 13)]) RL (wo w out (vp_updL f 0 r.toInt64)) (some .int) "hour" := B0
    refine k_goto (tgt := 15) B1 dL_hour_9 (by decide) ?_
    refine k_iconst (v := 0) B1 (by decide) dL_hour_15 ?_
    exact ret_W B0 rfl dL_hour_16 (Nat.le_of_ble_eq_true rfl) (Nat.le_of_ble_eq_true rfl) ⟨e1.symm, fun _ => by rw [e2]; exact updL_0, e3⟩
end WR
