/-- the words that every body is read with: the tables' good ones -/
def WS : List Cond := lw_tbl.filter goodWord
abbrev wsOf (y : MethodName) (c : ByteArray) (n : Nat) (r : Option FieldType) : List Cond := .code y c n r :: WS
theorem in_ws {w : Cond} (h : w ∈ lw_tbl) (g : goodWord w = true) : w ∈ WS := List.mem_filter.mpr ⟨h, g⟩
theorem in_of {w : Cond} {y : MethodName} {c : ByteArray} {n : Nat} {r : Option FieldType} (h : w ∈ WS) : w ∈ wsOf y c n r := List.mem_cons_of_mem _ h
theorem in_t1 {w : Cond} (i : Nat) (h : tables_1_1[i]? = some w) (g : goodWord w = true) : w ∈ WS := in_ws (List.mem_append_right _ (show w ∈ tables_1 from List.mem_append_left _ (List.mem_of_getElem? h))) g
theorem in_t2 {w : Cond} (i : Nat) (h : tables_1_2[i]? = some w) (g : goodWord w = true) : w ∈ WS := in_ws (List.mem_append_right _ (show w ∈ tables_1 from List.mem_append_right _ (List.mem_append_left _ (List.mem_of_getElem? h)))) g
theorem in_t3 {w : Cond} (i : Nat) (h : tables_1_3[i]? = some w) (g : goodWord w = true) : w ∈ WS := in_ws (List.mem_append_right _ (show w ∈ tables_1 from List.mem_append_right _ (List.mem_append_right _ (List.mem_append_left _ (List.mem_of_getElem? h))))) g
theorem in_t4 {w : Cond} (i : Nat) (h : tables_1_4[i]? = some w) (g : goodWord w = true) : w ∈ WS := in_ws (List.mem_append_right _ (show w ∈ tables_1 from List.mem_append_right _ (List.mem_append_right _ (List.mem_append_right _ (List.mem_append_left _ (List.mem_of_getElem? h)))))) g
theorem in_t5 {w : Cond} (i : Nat) (h : tables_1_5[i]? = some w) (g : goodWord w = true) : w ∈ WS := in_ws (List.mem_append_right _ (show w ∈ tables_1 from List.mem_append_right _ (List.mem_append_right _ (List.mem_append_right _ (List.mem_append_right _ (List.mem_append_left _ (List.mem_of_getElem? h))))))) g
theorem in_t6 {w : Cond} (i : Nat) (h : tables_1_6[i]? = some w) (g : goodWord w = true) : w ∈ WS := in_ws (List.mem_append_right _ (show w ∈ tables_1 from List.mem_append_right _ (List.mem_append_right _ (List.mem_append_right _ (List.mem_append_right _ (List.mem_append_right _ (List.mem_append_left _ (List.mem_of_getElem? h)))))))) g
theorem in_t7 {w : Cond} (i : Nat) (h : tables_1_7[i]? = some w) (g : goodWord w = true) : w ∈ WS := in_ws (List.mem_append_right _ (show w ∈ tables_1 from List.mem_append_right _ (List.mem_append_right _ (List.mem_append_right _ (List.mem_append_right _ (List.mem_append_right _ (List.mem_append_right _ (List.mem_of_getElem? h)))))))) g
theorem in_p1 {q : MethodName × Nat} (i : Nat) (h : lw_privs_1[i]? = some q) (g : goodWord (Cond.selects q.1.cls q.1 q.1) = true) : Cond.selects q.1.cls q.1 q.1 ∈ WS := in_ws (List.mem_append_left _ (List.mem_map.mpr ⟨q, (show q ∈ lw_privs from List.mem_append_left _ (List.mem_of_getElem? h)), rfl⟩)) g
theorem in_p2 {q : MethodName × Nat} (i : Nat) (h : lw_privs_2[i]? = some q) (g : goodWord (Cond.selects q.1.cls q.1 q.1) = true) : Cond.selects q.1.cls q.1 q.1 ∈ WS := in_ws (List.mem_append_left _ (List.mem_map.mpr ⟨q, (show q ∈ lw_privs from List.mem_append_right _ (List.mem_append_left _ (List.mem_of_getElem? h))), rfl⟩)) g
theorem in_p3 {q : MethodName × Nat} (i : Nat) (h : lw_privs_3[i]? = some q) (g : goodWord (Cond.selects q.1.cls q.1 q.1) = true) : Cond.selects q.1.cls q.1 q.1 ∈ WS := in_ws (List.mem_append_left _ (List.mem_map.mpr ⟨q, (show q ∈ lw_privs from List.mem_append_right _ (List.mem_append_right _ (List.mem_append_left _ (List.mem_of_getElem? h)))), rfl⟩)) g
theorem in_p4 {q : MethodName × Nat} (i : Nat) (h : lw_privs_4[i]? = some q) (g : goodWord (Cond.selects q.1.cls q.1 q.1) = true) : Cond.selects q.1.cls q.1 q.1 ∈ WS := in_ws (List.mem_append_left _ (List.mem_map.mpr ⟨q, (show q ∈ lw_privs from List.mem_append_right _ (List.mem_append_right _ (List.mem_append_right _ (List.mem_append_left _ (List.mem_of_getElem? h))))), rfl⟩)) g
theorem in_p5 {q : MethodName × Nat} (i : Nat) (h : lw_privs_5[i]? = some q) (g : goodWord (Cond.selects q.1.cls q.1 q.1) = true) : Cond.selects q.1.cls q.1 q.1 ∈ WS := in_ws (List.mem_append_left _ (List.mem_map.mpr ⟨q, (show q ∈ lw_privs from List.mem_append_right _ (List.mem_append_right _ (List.mem_append_right _ (List.mem_append_right _ (List.mem_of_getElem? h))))), rfl⟩)) g
theorem good_WS {w : Cond} (h : w ∈ WS) : (w.onTables && w.keeps) = true ∨ ∃ ty, w = .arrayClass ty := good_of_word (List.mem_filter.mp h).2
theorem gB {y0 y : MethodName} {c0 c : ByteArray} {n0 n : Nat} {r0 r : Option FieldType} (h5 : Cond.code y c n r ∈ WS) : GoodIn (wsOf y0 c0 n0 r0) (wsOf y c n r) := fun w hw => by
  rcases List.mem_cons.mp hw with rfl | h
  · exact ⟨in_of h5, good_WS h5⟩
  · exact ⟨in_of h, good_WS h⟩
theorem gV {own : String} {idx : Nat} {y0 y : MethodName} {c0 c : ByteArray} {n0 n : Nat} {r0 r : Option FieldType} {C : String} (h1 : Cond.methodLink own idx y ∈ WS) (h2 : Cond.instanceMethod y ∈ WS) (h3 : Cond.selects C y y ∈ WS) (h4 : Cond.initialized C ∈ WS) (h5 : Cond.code y c n r ∈ WS) : GoodIn (wsOf y0 c0 n0 r0) (wsV own idx C y (wsOf y c n r)) := fun w hw => by
  rcases List.mem_append.mp hw with h | h
  · simp only [List.mem_cons, List.not_mem_nil, or_false] at h
    rcases h with rfl | rfl | rfl | rfl
    · exact ⟨in_of h1, good_WS h1⟩
    · exact ⟨in_of h2, good_WS h2⟩
    · exact ⟨in_of h3, good_WS h3⟩
    · exact ⟨in_of h4, good_WS h4⟩
  · exact gB h5 w h
theorem gS {own : String} {idx : Nat} {y0 y : MethodName} {c0 c : ByteArray} {n0 n : Nat} {r0 r : Option FieldType} (h1 : Cond.methodLink own idx y ∈ WS) (h2 : Cond.static y ∈ WS) (h4 : Cond.initialized y.cls ∈ WS) (h5 : Cond.code y c n r ∈ WS) : GoodIn (wsOf y0 c0 n0 r0) (va_wsS own idx y (wsOf y c n r)) := fun w hw => by
  rcases List.mem_append.mp hw with h | h
  · simp only [List.mem_cons, List.not_mem_nil, or_false] at h
    rcases h with rfl | rfl | rfl
    · exact ⟨in_of h1, good_WS h1⟩
    · exact ⟨in_of h2, good_WS h2⟩
    · exact ⟨in_of h4, good_WS h4⟩
  · exact gB h5 w h
theorem uw_0 : ∀ w ∈ u_ws RJx4a65c TJx4a65c 3, w ∈ WS := by
  intro w hw
  obtain ⟨j, hj, rfl⟩ := List.mem_map.mp hw
  have hj := List.mem_range.mp hj
  match j, hj with
  | 0, _ => exact in_t1 95 rfl rfl
  | 1, _ => exact in_t1 91 rfl rfl
  | 2, _ => exact in_t1 93 rfl rfl
  | z + 3, h => exact absurd h (by omega)
theorem uw_1 : ∀ w ∈ u_ws RX0 TX0 3, w ∈ WS := by
  intro w hw
  obtain ⟨j, hj, rfl⟩ := List.mem_map.mp hw
  have hj := List.mem_range.mp hj
  match j, hj with
  | 0, _ => exact in_t1 200 rfl rfl
  | 1, _ => exact in_t1 202 rfl rfl
  | 2, _ => exact in_t1 204 rfl rfl
  | z + 3, h => exact absurd h (by omega)
theorem uw_2 : ∀ w ∈ u_ws RX1 TX1 4, w ∈ WS := by
  intro w hw
  obtain ⟨j, hj, rfl⟩ := List.mem_map.mp hw
  have hj := List.mem_range.mp hj
  match j, hj with
  | 0, _ => exact in_t3 204 rfl rfl
  | 1, _ => exact in_t3 206 rfl rfl
  | 2, _ => exact in_t3 208 rfl rfl
  | 3, _ => exact in_t3 210 rfl rfl
  | z + 4, h => exact absurd h (by omega)
theorem uw_3 : ∀ w ∈ u_ws RX2 TX2 3, w ∈ WS := by
  intro w hw
  obtain ⟨j, hj, rfl⟩ := List.mem_map.mp hw
  have hj := List.mem_range.mp hj
  match j, hj with
  | 0, _ => exact in_t4 65 rfl rfl
  | 1, _ => exact in_t4 67 rfl rfl
  | 2, _ => exact in_t4 69 rfl rfl
  | z + 3, h => exact absurd h (by omega)
theorem uw_4 : ∀ w ∈ u_ws RX3 TX3 14, w ∈ WS := by
  intro w hw
  obtain ⟨j, hj, rfl⟩ := List.mem_map.mp hw
  have hj := List.mem_range.mp hj
  match j, hj with
  | 0, _ => exact in_t4 165 rfl rfl
  | 1, _ => exact in_t4 167 rfl rfl
  | 2, _ => exact in_t4 169 rfl rfl
  | 3, _ => exact in_t4 171 rfl rfl
  | 4, _ => exact in_t4 173 rfl rfl
  | 5, _ => exact in_t4 175 rfl rfl
  | 6, _ => exact in_t4 177 rfl rfl
  | 7, _ => exact in_t4 179 rfl rfl
  | 8, _ => exact in_t4 181 rfl rfl
  | 9, _ => exact in_t4 183 rfl rfl
  | 10, _ => exact in_t4 185 rfl rfl
  | 11, _ => exact in_t4 187 rfl rfl
  | 12, _ => exact in_t4 189 rfl rfl
  | 13, _ => exact in_t4 191 rfl rfl
  | z + 14, h => exact absurd h (by omega)
theorem uw_5 : ∀ w ∈ u_ws RX4 TX4 2, w ∈ WS := by
  intro w hw
  obtain ⟨j, hj, rfl⟩ := List.mem_map.mp hw
  have hj := List.mem_range.mp hj
  match j, hj with
  | 0, _ => exact in_t1 54 rfl rfl
  | 1, _ => exact in_t1 56 rfl rfl
  | z + 2, h => exact absurd h (by omega)
theorem uw_6 : ∀ w ∈ u_ws RX5 TX5 6, w ∈ WS := by
  intro w hw
  obtain ⟨j, hj, rfl⟩ := List.mem_map.mp hw
  have hj := List.mem_range.mp hj
  match j, hj with
  | 0, _ => exact in_t1 175 rfl rfl
  | 1, _ => exact in_t1 177 rfl rfl
  | 2, _ => exact in_t1 179 rfl rfl
  | 3, _ => exact in_t1 181 rfl rfl
  | 4, _ => exact in_t1 183 rfl rfl
  | 5, _ => exact in_t1 185 rfl rfl
  | z + 6, h => exact absurd h (by omega)
theorem uw_7 : ∀ w ∈ u_ws RX6 TX6 2, w ∈ WS := by
  intro w hw
  obtain ⟨j, hj, rfl⟩ := List.mem_map.mp hw
  have hj := List.mem_range.mp hj
  match j, hj with
  | 0, _ => exact in_t1 220 rfl rfl
  | 1, _ => exact in_t1 222 rfl rfl
  | z + 2, h => exact absurd h (by omega)
theorem uw_8 : ∀ w ∈ u_ws RX7 TX7 6, w ∈ WS := by
  intro w hw
  obtain ⟨j, hj, rfl⟩ := List.mem_map.mp hw
  have hj := List.mem_range.mp hj
  match j, hj with
  | 0, _ => exact in_t1 146 rfl rfl
  | 1, _ => exact in_t1 148 rfl rfl
  | 2, _ => exact in_t1 150 rfl rfl
  | 3, _ => exact in_t1 152 rfl rfl
  | 4, _ => exact in_t1 154 rfl rfl
  | 5, _ => exact in_t1 156 rfl rfl
  | z + 6, h => exact absurd h (by omega)
theorem uw_9 : ∀ w ∈ u_ws RX8 TX8 2, w ∈ WS := by
  intro w hw
  obtain ⟨j, hj, rfl⟩ := List.mem_map.mp hw
  have hj := List.mem_range.mp hj
  match j, hj with
  | 0, _ => exact in_t1 67 rfl rfl
  | 1, _ => exact in_t1 69 rfl rfl
  | z + 2, h => exact absurd h (by omega)
theorem uw_10 : ∀ w ∈ u_ws RX9 TX9 6, w ∈ WS := by
  intro w hw
  obtain ⟨j, hj, rfl⟩ := List.mem_map.mp hw
  have hj := List.mem_range.mp hj
  match j, hj with
  | 0, _ => exact in_t1 122 rfl rfl
  | 1, _ => exact in_t1 124 rfl rfl
  | 2, _ => exact in_t1 126 rfl rfl
  | 3, _ => exact in_t1 128 rfl rfl
  | 4, _ => exact in_t1 130 rfl rfl
  | 5, _ => exact in_t1 132 rfl rfl
  | z + 6, h => exact absurd h (by omega)
theorem uw_11 : ∀ w ∈ u_ws RX10 TX10 5, w ∈ WS := by
  intro w hw
  obtain ⟨j, hj, rfl⟩ := List.mem_map.mp hw
  have hj := List.mem_range.mp hj
  match j, hj with
  | 0, _ => exact in_t4 101 rfl rfl
  | 1, _ => exact in_t4 103 rfl rfl
  | 2, _ => exact in_t4 105 rfl rfl
  | 3, _ => exact in_t4 107 rfl rfl
  | 4, _ => exact in_t4 109 rfl rfl
  | z + 5, h => exact absurd h (by omega)
theorem uw_12 : ∀ w ∈ u_ws RX11 TX11 11, w ∈ WS := by
  intro w hw
  obtain ⟨j, hj, rfl⟩ := List.mem_map.mp hw
  have hj := List.mem_range.mp hj
  match j, hj with
  | 0, _ => exact in_t1 236 rfl rfl
  | 1, _ => exact in_t1 238 rfl rfl
  | 2, _ => exact in_t2 0 rfl rfl
  | 3, _ => exact in_t2 2 rfl rfl
  | 4, _ => exact in_t2 4 rfl rfl
  | 5, _ => exact in_t2 6 rfl rfl
  | 6, _ => exact in_t2 8 rfl rfl
  | 7, _ => exact in_t2 10 rfl rfl
  | 8, _ => exact in_t2 12 rfl rfl
  | 9, _ => exact in_t2 14 rfl rfl
  | 10, _ => exact in_t2 16 rfl rfl
  | z + 11, h => exact absurd h (by omega)
theorem uw_13 : ∀ w ∈ u_ws RX12 TX12 15, w ∈ WS := by
  intro w hw
  obtain ⟨j, hj, rfl⟩ := List.mem_map.mp hw
  have hj := List.mem_range.mp hj
  match j, hj with
  | 0, _ => exact in_t5 136 rfl rfl
  | 1, _ => exact in_t5 138 rfl rfl
  | 2, _ => exact in_t5 140 rfl rfl
  | 3, _ => exact in_t5 142 rfl rfl
  | 4, _ => exact in_t5 144 rfl rfl
  | 5, _ => exact in_t5 146 rfl rfl
  | 6, _ => exact in_t5 148 rfl rfl
  | 7, _ => exact in_t5 150 rfl rfl
  | 8, _ => exact in_t5 152 rfl rfl
  | 9, _ => exact in_t5 154 rfl rfl
  | 10, _ => exact in_t5 156 rfl rfl
  | 11, _ => exact in_t5 158 rfl rfl
  | 12, _ => exact in_t5 160 rfl rfl
  | 13, _ => exact in_t5 162 rfl rfl
  | 14, _ => exact in_t5 164 rfl rfl
  | z + 15, h => exact absurd h (by omega)
theorem uw_14 : ∀ w ∈ u_ws RX13 TX13 36, w ∈ WS := by
  intro w hw
  obtain ⟨j, hj, rfl⟩ := List.mem_map.mp hw
  have hj := List.mem_range.mp hj
  match j, hj with
  | 0, _ => exact in_t5 223 rfl rfl
  | 1, _ => exact in_t5 225 rfl rfl
  | 2, _ => exact in_t5 227 rfl rfl
  | 3, _ => exact in_t5 229 rfl rfl
  | 4, _ => exact in_t5 231 rfl rfl
  | 5, _ => exact in_t5 233 rfl rfl
  | 6, _ => exact in_t5 235 rfl rfl
  | 7, _ => exact in_t5 237 rfl rfl
  | 8, _ => exact in_t5 239 rfl rfl
  | 9, _ => exact in_t6 1 rfl rfl
  | 10, _ => exact in_t6 3 rfl rfl
  | 11, _ => exact in_t6 5 rfl rfl
  | 12, _ => exact in_t6 7 rfl rfl
  | 13, _ => exact in_t6 9 rfl rfl
  | 14, _ => exact in_t6 11 rfl rfl
  | 15, _ => exact in_t6 13 rfl rfl
  | 16, _ => exact in_t6 15 rfl rfl
  | 17, _ => exact in_t6 17 rfl rfl
  | 18, _ => exact in_t6 19 rfl rfl
  | 19, _ => exact in_t6 21 rfl rfl
  | 20, _ => exact in_t6 23 rfl rfl
  | 21, _ => exact in_t6 25 rfl rfl
  | 22, _ => exact in_t6 27 rfl rfl
  | 23, _ => exact in_t6 29 rfl rfl
  | 24, _ => exact in_t6 31 rfl rfl
  | 25, _ => exact in_t6 33 rfl rfl
  | 26, _ => exact in_t6 35 rfl rfl
  | 27, _ => exact in_t6 37 rfl rfl
  | 28, _ => exact in_t6 39 rfl rfl
  | 29, _ => exact in_t6 41 rfl rfl
  | 30, _ => exact in_t6 43 rfl rfl
  | 31, _ => exact in_t6 45 rfl rfl
  | 32, _ => exact in_t6 47 rfl rfl
  | 33, _ => exact in_t6 49 rfl rfl
  | 34, _ => exact in_t6 51 rfl rfl
  | 35, _ => exact in_t6 53 rfl rfl
  | z + 36, h => exact absurd h (by omega)
theorem qlRX0_1 : Cond.methodLink RX0 1 objectInit ∈ WS := in_t1 193 rfl rfl
theorem qi_obj : Cond.instanceMethod objectInit ∈ WS := in_t1 36 rfl rfl
theorem qc_obj : Cond.code objectInit ⟨#[0xb1]⟩ 1 none ∈ WS := in_t1 37 rfl rfl
theorem qfRX0_7 : Cond.fieldLink RX0 7 "LastMile$Choice" "change" "I" ∈ WS := in_t1 194 rfl rfl
theorem qfRX0_13 : Cond.fieldLink RX0 13 "LastMile$Choice" "spot" "I" ∈ WS := in_t1 196 rfl rfl
theorem qfRX0_16 : Cond.fieldLink RX0 16 "LastMile$Choice" "parcel" "LLastMile$Parcel;" ∈ WS := in_t1 198 rfl rfl
theorem qlRX1_3 : Cond.methodLink RX1 3 objectInit ∈ WS := in_t3 191 rfl rfl
theorem qarrI : Cond.arrayClass (newarray.typeOf .int) ∈ WS := in_t1 59 rfl rfl
theorem qfRX1_9 : Cond.fieldLink RX1 9 "LastMile$Home" "orders" "[I" ∈ WS := in_t3 198 rfl rfl
theorem qfRX1_15 : Cond.fieldLink RX1 15 "LastMile$Home" "orderCount" "I" ∈ WS := in_t3 201 rfl rfl
theorem qfRX1_19 : Cond.fieldLink RX1 19 "LastMile$Home" "place" "LLastMile$Place;" ∈ WS := in_t3 192 rfl rfl
theorem qfRX1_23 : Cond.fieldLink RX1 23 "LastMile$Home" "hours" "I" ∈ WS := in_t3 196 rfl rfl
theorem qlRX1_26 : Cond.methodLink RX1 26 yX8_hourOf ∈ WS := in_t2 172 rfl rfl
theorem qsX8_hourOf : Cond.static yX8_hourOf ∈ WS := in_t2 87 rfl rfl
theorem qzRX8 : Cond.initialized RX8 ∈ WS := in_t1 2 rfl rfl
theorem qcX8_hourOf : Cond.code yX8_hourOf cX8_hourOf 1 (some .int) ∈ WS := in_t2 88 rfl rfl
theorem qlRX2_3 : Cond.methodLink RX2 3 objectInit ∈ WS := in_t4 57 rfl rfl
theorem qfRX2_9 : Cond.fieldLink RX2 9 "LastMile$Locker" "free" "[I" ∈ WS := in_t4 61 rfl rfl
theorem qfRX2_15 : Cond.fieldLink RX2 15 "LastMile$Locker" "kept" "[I" ∈ WS := in_t4 64 rfl rfl
theorem qfRX2_18 : Cond.fieldLink RX2 18 "LastMile$Locker" "place" "LLastMile$Place;" ∈ WS := in_t4 58 rfl rfl
theorem qlRX2_25 : Cond.methodLink RX2 25 arraycopyName ∈ WS := in_t5 77 rfl rfl
theorem qnat_copy : Cond.native arraycopyName ∈ WS := in_t4 35 rfl rfl
theorem qs_copy : Cond.static arraycopyName ∈ WS := in_t4 34 rfl rfl
theorem qz_System : Cond.initialized "java/lang/System" ∈ WS := in_t1 24 rfl rfl
theorem qlRX3_3 : Cond.methodLink RX3 3 objectInit ∈ WS := in_t4 123 rfl rfl
theorem qfRX3_9 : Cond.fieldLink RX3 9 "LastMile$Parcel" "van" "LLastMile$Van;" ∈ WS := in_t4 149 rfl rfl
theorem qfRX3_15 : Cond.fieldLink RX3 15 "LastMile$Parcel" "attempts" "I" ∈ WS := in_t4 151 rfl rfl
theorem qfRX3_19 : Cond.fieldLink RX3 19 "LastMile$Parcel" "state" "I" ∈ WS := in_t4 154 rfl rfl
theorem qfRX3_22 : Cond.fieldLink RX3 22 "LastMile$Parcel" "where" "I" ∈ WS := in_t4 157 rfl rfl
theorem qfRX3_25 : Cond.fieldLink RX3 25 "LastMile$Parcel" "box" "I" ∈ WS := in_t4 160 rfl rfl
theorem qfRX3_28 : Cond.fieldLink RX3 28 "LastMile$Parcel" "nights" "I" ∈ WS := in_t4 162 rfl rfl
theorem qfRX3_31 : Cond.fieldLink RX3 31 "LastMile$Parcel" "kept" "[I" ∈ WS := in_t4 164 rfl rfl
theorem qfRX3_35 : Cond.fieldLink RX3 35 "LastMile$Parcel" "number" "I" ∈ WS := in_t4 124 rfl rfl
theorem qfRX3_38 : Cond.fieldLink RX3 38 "LastMile$Parcel" "kind" "I" ∈ WS := in_t4 126 rfl rfl
theorem qfRX3_41 : Cond.fieldLink RX3 41 "LastMile$Parcel" "volume" "I" ∈ WS := in_t4 131 rfl rfl
theorem qfRX3_44 : Cond.fieldLink RX3 44 "LastMile$Parcel" "homeNumber" "I" ∈ WS := in_t4 136 rfl rfl
theorem qfRX3_47 : Cond.fieldLink RX3 47 "LastMile$Parcel" "home" "LLastMile$Home;" ∈ WS := in_t4 138 rfl rfl
theorem qfRX3_51 : Cond.fieldLink RX3 51 "LastMile$Parcel" "from" "I" ∈ WS := in_t4 142 rfl rfl
theorem qfRX3_54 : Cond.fieldLink RX3 54 "LastMile$Parcel" "till" "I" ∈ WS := in_t4 146 rfl rfl
theorem qlRX4_1 : Cond.methodLink RX4 1 objectInit ∈ WS := in_t1 49 rfl rfl
theorem qfRX4_7 : Cond.fieldLink RX4 7 "LastMile$Place" "x" "I" ∈ WS := in_t1 50 rfl rfl
theorem qfRX4_13 : Cond.fieldLink RX4 13 "LastMile$Place" "y" "I" ∈ WS := in_t1 52 rfl rfl
theorem qlRX6_3 : Cond.methodLink RX6 3 objectInit ∈ WS := in_t1 212 rfl rfl
theorem qkRX6_9 : Cond.classLink RX6 9 "LastMile$Parcel" ∈ WS := in_t1 213 rfl rfl
theorem qfRX6_11 : Cond.fieldLink RX6 11 "LastMile$Route" "row" "[LLastMile$Parcel;" ∈ WS := in_t1 215 rfl rfl
theorem qfRX6_17 : Cond.fieldLink RX6 17 "LastMile$Route" "size" "I" ∈ WS := in_t1 216 rfl rfl
theorem qlRX6_21 : Cond.methodLink RX6 21 yX6_greatestLoad ∈ WS := in_t2 113 rfl rfl
theorem qiX6_greatestLoad : Cond.instanceMethod yX6_greatestLoad ∈ WS := in_t2 114 rfl rfl
theorem qeX6_greatestLoad : Cond.selects RX6 yX6_greatestLoad yX6_greatestLoad ∈ WS := in_t2 115 rfl rfl
theorem qzRX6 : Cond.initialized RX6 ∈ WS := in_t1 11 rfl rfl
theorem qcX6_greatestLoad : Cond.code yX6_greatestLoad cX6_greatestLoad 4 (some .int) ∈ WS := in_t2 116 rfl rfl
theorem qfRX6_25 : Cond.fieldLink RX6 25 "LastMile$Parcel" "kind" "I" ∈ WS := in_t4 129 rfl rfl
theorem qfRX6_28 : Cond.fieldLink RX6 28 "LastMile$Parcel" "volume" "I" ∈ WS := in_t4 134 rfl rfl
theorem qlRX6_31 : Cond.methodLink RX6 31 yX6_loadAtDepot ∈ WS := in_t2 117 rfl rfl
theorem qiX6_loadAtDepot : Cond.instanceMethod yX6_loadAtDepot ∈ WS := in_t2 63 rfl rfl
theorem qeX6_loadAtDepot : Cond.selects RX6 yX6_loadAtDepot yX6_loadAtDepot ∈ WS := in_t2 64 rfl rfl
theorem qcX6_loadAtDepot : Cond.code yX6_loadAtDepot cX6_loadAtDepot 3 (some .int) ∈ WS := in_t2 65 rfl rfl
theorem qlRX8_3 : Cond.methodLink RX8 3 objectInit ∈ WS := in_t1 43 rfl rfl
theorem qfRX8_9 : Cond.fieldLink RX8 9 "LastMile$Town" "slow" "[I" ∈ WS := in_t1 60 rfl rfl
theorem qn5 : Cond.instantiable RX4 2 ∈ WS := in_t1 45 rfl rfl
theorem qzRX4 : Cond.initialized RX4 ∈ WS := in_t1 3 rfl rfl
theorem qkRX8_15 : Cond.classLink RX8 15 "LastMile$Place" ∈ WS := in_t1 44 rfl rfl
theorem qcX4_init : Cond.code yX4_init cX4_init 3 none ∈ WS := in_t1 48 rfl rfl
theorem qlRX8_17 : Cond.methodLink RX8 17 yX4_init ∈ WS := in_t1 46 rfl rfl
theorem qiX4_init : Cond.instanceMethod yX4_init ∈ WS := in_t1 47 rfl rfl
theorem qfRX8_20 : Cond.fieldLink RX8 20 "LastMile$Town" "depot" "LLastMile$Place;" ∈ WS := in_t1 62 rfl rfl
theorem qlRX8_24 : Cond.methodLink RX8 24 yX4_distanceTo ∈ WS := in_t2 82 rfl rfl
theorem qiX4_distanceTo : Cond.instanceMethod yX4_distanceTo ∈ WS := in_t2 83 rfl rfl
theorem qeX4_distanceTo : Cond.selects RX4 yX4_distanceTo yX4_distanceTo ∈ WS := in_t2 84 rfl rfl
theorem qcX4_distanceTo : Cond.code yX4_distanceTo cX4_distanceTo 4 (some .int) ∈ WS := in_t2 85 rfl rfl
theorem qlRX8_28 : Cond.methodLink RX8 28 yX8_hourOf ∈ WS := in_t2 86 rfl rfl
theorem qlRX9_3 : Cond.methodLink RX9 3 objectInit ∈ WS := in_t1 109 rfl rfl
theorem qfRX9_9 : Cond.fieldLink RX9 9 "LastMile$Trip" "workSince" "I" ∈ WS := in_t1 112 rfl rfl
theorem qfRX9_15 : Cond.fieldLink RX9 15 "LastMile$Trip" "minute" "I" ∈ WS := in_t1 113 rfl rfl
theorem qfRX9_18 : Cond.fieldLink RX9 18 "LastMile$Trip" "going" "I" ∈ WS := in_t1 117 rfl rfl
theorem qfRX9_21 : Cond.fieldLink RX9 21 "LastMile$Trip" "breaks" "I" ∈ WS := in_t1 120 rfl rfl
theorem qfRX9_24 : Cond.fieldLink RX9 24 "LastMile$Trip" "town" "LLastMile$Town;" ∈ WS := in_t1 110 rfl rfl
theorem qfRX9_28 : Cond.fieldLink RX9 28 "LastMile$Town" "depot" "LLastMile$Place;" ∈ WS := in_t1 63 rfl rfl
theorem qfRX9_34 : Cond.fieldLink RX9 34 "LastMile$Trip" "place" "LLastMile$Place;" ∈ WS := in_t1 111 rfl rfl
theorem qlRX9_37 : Cond.methodLink RX9 37 yX8_minutesOf ∈ WS := in_t2 78 rfl rfl
theorem qiX8_minutesOf : Cond.instanceMethod yX8_minutesOf ∈ WS := in_t2 79 rfl rfl
theorem qeX8_minutesOf : Cond.selects RX8 yX8_minutesOf yX8_minutesOf ∈ WS := in_t2 80 rfl rfl
theorem qcX8_minutesOf : Cond.code yX8_minutesOf cX8_minutesOf 4 (some .int) ∈ WS := in_t2 81 rfl rfl
theorem qlRX9_41 : Cond.methodLink RX9 41 yX9_arrive ∈ WS := in_t2 89 rfl rfl
theorem qiX9_arrive : Cond.instanceMethod yX9_arrive ∈ WS := in_t2 91 rfl rfl
theorem qeX9_arrive : Cond.selects RX9 yX9_arrive yX9_arrive ∈ WS := in_p1 2 rfl rfl
theorem qzRX9 : Cond.initialized RX9 ∈ WS := in_t1 8 rfl rfl
theorem qcX9_arrive : Cond.code yX9_arrive cX9_arrive 3 none ∈ WS := in_t2 92 rfl rfl
theorem qlRX10_1 : Cond.methodLink RX10 1 objectInit ∈ WS := in_t4 83 rfl rfl
theorem qn7 : Cond.instantiable RX6 2 ∈ WS := in_t1 208 rfl rfl
theorem qkRX10_7 : Cond.classLink RX10 7 "LastMile$Route" ∈ WS := in_t4 84 rfl rfl
theorem qcX6_init : Cond.code yX6_init cX6_init 1 none ∈ WS := in_t1 211 rfl rfl
theorem qiX6_init : Cond.instanceMethod yX6_init ∈ WS := in_t1 210 rfl rfl
theorem qfRX10_10 : Cond.fieldLink RX10 10 "LastMile$Van" "row" "LLastMile$Route;" ∈ WS := in_t4 98 rfl rfl
theorem qfRX10_16 : Cond.fieldLink RX10 16 "LastMile$Van" "number" "I" ∈ WS := in_t4 86 rfl rfl
theorem qfRX10_20 : Cond.fieldLink RX10 20 "LastMile$Van" "room" "I" ∈ WS := in_t4 88 rfl rfl
theorem qfRX10_23 : Cond.fieldLink RX10 23 "LastMile$Van" "start" "I" ∈ WS := in_t4 90 rfl rfl
theorem qfRX10_26 : Cond.fieldLink RX10 26 "LastMile$Van" "end" "I" ∈ WS := in_t4 94 rfl rfl
theorem qlRX5_3 : Cond.methodLink RX5 3 objectInit ∈ WS := in_t1 164 rfl rfl
theorem qfRX5_9 : Cond.fieldLink RX5 9 "LastMile$Round" "done" "I" ∈ WS := in_t1 171 rfl rfl
theorem qfRX5_15 : Cond.fieldLink RX5 15 "LastMile$Round" "latest" "I" ∈ WS := in_t1 173 rfl rfl
theorem qfRX5_18 : Cond.fieldLink RX5 18 "LastMile$Round" "town" "LLastMile$Town;" ∈ WS := in_t1 167 rfl rfl
theorem qfRX5_22 : Cond.fieldLink RX5 22 "LastMile$Round" "homes" "Ljava/util/ArrayList;" ∈ WS := in_t1 168 rfl rfl
theorem qfRX5_26 : Cond.fieldLink RX5 26 "LastMile$Round" "lockers" "Ljava/util/ArrayList;" ∈ WS := in_t1 169 rfl rfl
theorem qn10 : Cond.instantiable RX9 6 ∈ WS := in_t1 105 rfl rfl
theorem qkRX5_29 : Cond.classLink RX5 29 "LastMile$Trip" ∈ WS := in_t1 165 rfl rfl
theorem qcX9_init : Cond.code yX9_init cX9_init 2 none ∈ WS := in_t1 108 rfl rfl
theorem qlRX5_31 : Cond.methodLink RX5 31 yX9_init ∈ WS := in_t1 166 rfl rfl
theorem qiX9_init : Cond.instanceMethod yX9_init ∈ WS := in_t1 107 rfl rfl
theorem qfRX5_34 : Cond.fieldLink RX5 34 "LastMile$Round" "trip" "LLastMile$Trip;" ∈ WS := in_t1 170 rfl rfl
theorem qfRX5_38 : Cond.fieldLink RX5 38 "LastMile$Van" "start" "I" ∈ WS := in_t4 92 rfl rfl
theorem qlRX5_43 : Cond.methodLink RX5 43 yX9_begin ∈ WS := in_t2 160 rfl rfl
theorem qiX9_begin : Cond.instanceMethod yX9_begin ∈ WS := in_t2 67 rfl rfl
theorem qeX9_begin : Cond.selects RX9 yX9_begin yX9_begin ∈ WS := in_t2 68 rfl rfl
theorem qcX9_begin : Cond.code yX9_begin cX9_begin 2 none ∈ WS := in_t2 69 rfl rfl
theorem qfRX5_47 : Cond.fieldLink RX5 47 "LastMile$Van" "row" "LLastMile$Route;" ∈ WS := in_t4 99 rfl rfl
theorem qfRX5_51 : Cond.fieldLink RX5 51 "LastMile$Route" "size" "I" ∈ WS := in_t1 218 rfl rfl
theorem qfRX5_56 : Cond.fieldLink RX5 56 "LastMile$Trip" "minute" "I" ∈ WS := in_t1 115 rfl rfl
theorem qfRX5_59 : Cond.fieldLink RX5 59 "LastMile$Van" "end" "I" ∈ WS := in_t4 96 rfl rfl
theorem qlRX5_62 : Cond.methodLink RX5 62 yX6_at ∈ WS := in_t2 161 rfl rfl
theorem qiX6_at : Cond.instanceMethod yX6_at ∈ WS := in_t2 71 rfl rfl
theorem qeX6_at : Cond.selects RX6 yX6_at yX6_at ∈ WS := in_t2 72 rfl rfl
theorem qcX6_at : Cond.code yX6_at cX6_at 2 (some (.object "LastMile$Parcel")) ∈ WS := in_t2 73 rfl rfl
theorem qlRX5_66 : Cond.methodLink RX5 66 yX5_visit ∈ WS := in_t2 162 rfl rfl
theorem qiX5_visit : Cond.instanceMethod yX5_visit ∈ WS := in_t2 164 rfl rfl
theorem qeX5_visit : Cond.selects RX5 yX5_visit yX5_visit ∈ WS := in_p1 6 rfl rfl
theorem qzRX5 : Cond.initialized RX5 ∈ WS := in_t1 9 rfl rfl
theorem qcX5_visit : Cond.code yX5_visit cX5_visit 2 none ∈ WS := in_t2 165 rfl rfl
theorem qfRX5_70 : Cond.fieldLink RX5 70 "LastMile$Parcel" "state" "I" ∈ WS := in_t4 155 rfl rfl
theorem qfRX5_75 : Cond.fieldLink RX5 75 "LastMile$Parcel" "kind" "I" ∈ WS := in_t4 128 rfl rfl
theorem qlRX5_78 : Cond.methodLink RX5 78 yX5_tryOrders ∈ WS := in_t2 174 rfl rfl
theorem qiX5_tryOrders : Cond.instanceMethod yX5_tryOrders ∈ WS := in_t2 176 rfl rfl
theorem qeX5_tryOrders : Cond.selects RX5 yX5_tryOrders yX5_tryOrders ∈ WS := in_p1 7 rfl rfl
theorem qcX5_tryOrders : Cond.code yX5_tryOrders cX5_tryOrders 5 none ∈ WS := in_t2 177 rfl rfl
theorem qlRX5_81 : Cond.methodLink RX5 81 yX5_settle ∈ WS := in_t2 200 rfl rfl
theorem qiX5_settle : Cond.instanceMethod yX5_settle ∈ WS := in_t2 202 rfl rfl
theorem qeX5_settle : Cond.selects RX5 yX5_settle yX5_settle ∈ WS := in_p1 10 rfl rfl
theorem qcX5_settle : Cond.code yX5_settle cX5_settle 2 none ∈ WS := in_t2 203 rfl rfl
theorem qfRX5_84 : Cond.fieldLink RX5 84 "LastMile$Town" "depot" "LLastMile$Place;" ∈ WS := in_t1 66 rfl rfl
theorem qlRX5_90 : Cond.methodLink RX5 90 yX9_goWithBreak ∈ WS := in_t2 166 rfl rfl
theorem qiX9_goWithBreak : Cond.instanceMethod yX9_goWithBreak ∈ WS := in_t2 75 rfl rfl
theorem qeX9_goWithBreak : Cond.selects RX9 yX9_goWithBreak yX9_goWithBreak ∈ WS := in_t2 76 rfl rfl
theorem qcX9_goWithBreak : Cond.code yX9_goWithBreak cX9_goWithBreak 3 none ∈ WS := in_t2 77 rfl rfl
theorem qfRX5_94 : Cond.fieldLink RX5 94 "LastMile$Parcel" "home" "LLastMile$Home;" ∈ WS := in_t4 140 rfl rfl
theorem qfRX5_98 : Cond.fieldLink RX5 98 "LastMile$Home" "place" "LLastMile$Place;" ∈ WS := in_t3 194 rfl rfl
theorem qfRX5_103 : Cond.fieldLink RX5 103 "LastMile$Parcel" "from" "I" ∈ WS := in_t4 144 rfl rfl
theorem qlRX5_106 : Cond.methodLink RX5 106 yX9_waitTill ∈ WS := in_t2 167 rfl rfl
theorem qiX9_waitTill : Cond.instanceMethod yX9_waitTill ∈ WS := in_t2 94 rfl rfl
theorem qeX9_waitTill : Cond.selects RX9 yX9_waitTill yX9_waitTill ∈ WS := in_t2 95 rfl rfl
theorem qcX9_waitTill : Cond.code yX9_waitTill cX9_waitTill 2 none ∈ WS := in_t2 96 rfl rfl
theorem qlRX5_109 : Cond.methodLink RX5 109 yX1_isSomebodyIn ∈ WS := in_t2 168 rfl rfl
theorem qiX1_isSomebodyIn : Cond.instanceMethod yX1_isSomebodyIn ∈ WS := in_t2 169 rfl rfl
theorem qeX1_isSomebodyIn : Cond.selects RX1 yX1_isSomebodyIn yX1_isSomebodyIn ∈ WS := in_t2 170 rfl rfl
theorem qzRX1 : Cond.initialized RX1 ∈ WS := in_t1 21 rfl rfl
theorem qcX1_isSomebodyIn : Cond.code yX1_isSomebodyIn cX1_isSomebodyIn 2 (some .boolean) ∈ WS := in_t2 171 rfl rfl
theorem qfRX5_113 : Cond.fieldLink RX5 113 "LastMile$Parcel" "attempts" "I" ∈ WS := in_t4 152 rfl rfl
theorem qlRX5_116 : Cond.methodLink RX5 116 yX9_stay ∈ WS := in_t2 173 rfl rfl
theorem qiX9_stay : Cond.instanceMethod yX9_stay ∈ WS := in_t2 98 rfl rfl
theorem qeX9_stay : Cond.selects RX9 yX9_stay yX9_stay ∈ WS := in_t2 99 rfl rfl
theorem qcX9_stay : Cond.code yX9_stay cX9_stay 2 none ∈ WS := in_t2 100 rfl rfl
theorem qfRX5_119 : Cond.fieldLink RX5 119 "LastMile$Home" "orderCount" "I" ∈ WS := in_t3 203 rfl rfl
theorem qfRX5_122 : Cond.fieldLink RX5 122 "LastMile$Home" "orders" "[I" ∈ WS := in_t3 200 rfl rfl
theorem qlRX5_126 : Cond.methodLink RX5 126 yX5_tryNeighbour ∈ WS := in_t2 178 rfl rfl
theorem qiX5_tryNeighbour : Cond.instanceMethod yX5_tryNeighbour ∈ WS := in_t2 180 rfl rfl
theorem qeX5_tryNeighbour : Cond.selects RX5 yX5_tryNeighbour yX5_tryNeighbour ∈ WS := in_p1 8 rfl rfl
theorem qcX5_tryNeighbour : Cond.code yX5_tryNeighbour cX5_tryNeighbour 4 none ∈ WS := in_t2 181 rfl rfl
theorem qlRX5_130 : Cond.methodLink RX5 130 yX5_tryLocker ∈ WS := in_t2 189 rfl rfl
theorem qiX5_tryLocker : Cond.instanceMethod yX5_tryLocker ∈ WS := in_t2 191 rfl rfl
theorem qeX5_tryLocker : Cond.selects RX5 yX5_tryLocker yX5_tryLocker ∈ WS := in_p1 9 rfl rfl
theorem qcX5_tryLocker : Cond.code yX5_tryLocker cX5_tryLocker 6 none ∈ WS := in_t2 192 rfl rfl
theorem qlRX5_133 : Cond.methodLink RX5 133 yJx4a65c_get_915e3 ∈ WS := in_t2 182 rfl rfl
theorem qiJx4a65c_get_915e3 : Cond.instanceMethod yJx4a65c_get_915e3 ∈ WS := in_t2 32 rfl rfl
theorem qeJx4a65c_get_915e3 : Cond.selects RJx4a65c yJx4a65c_get_915e3 yJx4a65c_get_915e3 ∈ WS := in_t2 33 rfl rfl
theorem qzRJx4a65c : Cond.initialized RJx4a65c ∈ WS := in_t1 6 rfl rfl
theorem qcJx4a65c_get_915e3 : Cond.code yJx4a65c_get_915e3 cJx4a65c_get_915e3 2 (some (.object "java/lang/Object")) ∈ WS := in_t2 34 rfl rfl
theorem qkRX5_139 : Cond.classLink RX5 139 "LastMile$Locker" ∈ WS := in_t2 193 rfl rfl
theorem qfRX5_141 : Cond.fieldLink RX5 141 "LastMile$Parcel" "volume" "I" ∈ WS := in_t4 133 rfl rfl
theorem qlRX5_144 : Cond.methodLink RX5 144 yX2_boxFor ∈ WS := in_t2 194 rfl rfl
theorem qiX2_boxFor : Cond.instanceMethod yX2_boxFor ∈ WS := in_t2 195 rfl rfl
theorem qeX2_boxFor : Cond.selects RX2 yX2_boxFor yX2_boxFor ∈ WS := in_t2 196 rfl rfl
theorem qzRX2 : Cond.initialized RX2 ∈ WS := in_t1 27 rfl rfl
theorem qcX2_boxFor : Cond.code yX2_boxFor cX2_boxFor 3 (some .int) ∈ WS := in_t2 197 rfl rfl
theorem qfRX5_148 : Cond.fieldLink RX5 148 "LastMile$Locker" "place" "LLastMile$Place;" ∈ WS := in_t4 59 rfl rfl
theorem qlRX5_149 : Cond.methodLink RX5 149 yX4_distanceTo ∈ WS := in_t2 184 rfl rfl
theorem qlRX5_155 : Cond.methodLink RX5 155 yX9_goStraight ∈ WS := in_t2 185 rfl rfl
theorem qiX9_goStraight : Cond.instanceMethod yX9_goStraight ∈ WS := in_t2 186 rfl rfl
theorem qeX9_goStraight : Cond.selects RX9 yX9_goStraight yX9_goStraight ∈ WS := in_t2 187 rfl rfl
theorem qcX9_goStraight : Cond.code yX9_goStraight cX9_goStraight 2 none ∈ WS := in_t2 188 rfl rfl
theorem qfRX5_158 : Cond.fieldLink RX5 158 "LastMile$Locker" "free" "[I" ∈ WS := in_t4 62 rfl rfl
theorem qfRX5_161 : Cond.fieldLink RX5 161 "LastMile$Parcel" "where" "I" ∈ WS := in_t4 158 rfl rfl
theorem qfRX5_164 : Cond.fieldLink RX5 164 "LastMile$Parcel" "box" "I" ∈ WS := in_t4 161 rfl rfl
theorem qkRX5_99 : Cond.classLink RX5 99 "LastMile$Home" ∈ WS := in_t2 183 rfl rfl
theorem qfRX5_167 : Cond.fieldLink RX5 167 "LastMile$Parcel" "nights" "I" ∈ WS := in_t4 163 rfl rfl
theorem qlRX5_170 : Cond.methodLink RX5 170 yX5_emptyBox ∈ WS := in_t2 208 rfl rfl
theorem qsX5_emptyBox : Cond.static yX5_emptyBox ∈ WS := in_t2 209 rfl rfl
theorem qcX5_emptyBox : Cond.code yX5_emptyBox cX5_emptyBox 3 none ∈ WS := in_t2 210 rfl rfl
theorem qlRX7_3 : Cond.methodLink RX7 3 objectInit ∈ WS := in_t1 103 rfl rfl
theorem qfRX7_9 : Cond.fieldLink RX7 9 "LastMile$Schedule" "minutes" "[I" ∈ WS := in_t1 138 rfl rfl
theorem qfRX7_15 : Cond.fieldLink RX7 15 "LastMile$Schedule" "lates" "[I" ∈ WS := in_t1 140 rfl rfl
theorem qfRX7_18 : Cond.fieldLink RX7 18 "LastMile$Schedule" "loads" "[I" ∈ WS := in_t1 142 rfl rfl
theorem qfRX7_21 : Cond.fieldLink RX7 21 "LastMile$Schedule" "lateness" "I" ∈ WS := in_t1 144 rfl rfl
theorem qfRX7_25 : Cond.fieldLink RX7 25 "LastMile$Schedule" "town" "LLastMile$Town;" ∈ WS := in_t1 135 rfl rfl
theorem qkRX7_29 : Cond.classLink RX7 29 "LastMile$Trip" ∈ WS := in_t1 104 rfl rfl
theorem qlRX7_31 : Cond.methodLink RX7 31 yX9_init ∈ WS := in_t1 106 rfl rfl
theorem qfRX7_34 : Cond.fieldLink RX7 34 "LastMile$Schedule" "trip" "LLastMile$Trip;" ∈ WS := in_t1 136 rfl rfl
theorem qlRX7_38 : Cond.methodLink RX7 38 yX6_loadAtDepot ∈ WS := in_t2 62 rfl rfl
theorem qfRX7_44 : Cond.fieldLink RX7 44 "LastMile$Van" "start" "I" ∈ WS := in_t4 91 rfl rfl
theorem qlRX7_49 : Cond.methodLink RX7 49 yX9_begin ∈ WS := in_t2 66 rfl rfl
theorem qfRX7_53 : Cond.fieldLink RX7 53 "LastMile$Route" "size" "I" ∈ WS := in_t1 217 rfl rfl
theorem qlRX7_56 : Cond.methodLink RX7 56 yX6_at ∈ WS := in_t2 70 rfl rfl
theorem qfRX7_60 : Cond.fieldLink RX7 60 "LastMile$Parcel" "home" "LLastMile$Home;" ∈ WS := in_t4 139 rfl rfl
theorem qfRX7_66 : Cond.fieldLink RX7 66 "LastMile$Home" "place" "LLastMile$Place;" ∈ WS := in_t3 193 rfl rfl
theorem qlRX7_72 : Cond.methodLink RX7 72 yX9_goWithBreak ∈ WS := in_t2 74 rfl rfl
theorem qfRX7_76 : Cond.fieldLink RX7 76 "LastMile$Parcel" "from" "I" ∈ WS := in_t4 143 rfl rfl
theorem qlRX7_79 : Cond.methodLink RX7 79 yX9_waitTill ∈ WS := in_t2 93 rfl rfl
theorem qfRX7_82 : Cond.fieldLink RX7 82 "LastMile$Parcel" "kind" "I" ∈ WS := in_t4 127 rfl rfl
theorem qfRX7_85 : Cond.fieldLink RX7 85 "LastMile$Parcel" "volume" "I" ∈ WS := in_t4 132 rfl rfl
theorem qfRX7_88 : Cond.fieldLink RX7 88 "LastMile$Trip" "minute" "I" ∈ WS := in_t1 114 rfl rfl
theorem qfRX7_91 : Cond.fieldLink RX7 91 "LastMile$Parcel" "till" "I" ∈ WS := in_t4 147 rfl rfl
theorem qlRX7_94 : Cond.methodLink RX7 94 yX9_stay ∈ WS := in_t2 97 rfl rfl
theorem qfRX7_97 : Cond.fieldLink RX7 97 "LastMile$Town" "depot" "LLastMile$Place;" ∈ WS := in_t1 64 rfl rfl
theorem qfRX7_102 : Cond.fieldLink RX7 102 "LastMile$Van" "end" "I" ∈ WS := in_t4 95 rfl rfl
theorem qfRX7_105 : Cond.fieldLink RX7 105 "LastMile$Trip" "going" "I" ∈ WS := in_t1 118 rfl rfl
theorem qlRX11_1 : Cond.methodLink RX11 1 objectInit ∈ WS := in_t1 35 rfl rfl
theorem qn9 : Cond.instantiable RX8 2 ∈ WS := in_t1 39 rfl rfl
theorem qkRX11_7 : Cond.classLink RX11 7 "LastMile$Town" ∈ WS := in_t1 38 rfl rfl
theorem qcX8_init : Cond.code yX8_init cX8_init 2 none ∈ WS := in_t1 42 rfl rfl
theorem qlRX11_9 : Cond.methodLink RX11 9 yX8_init ∈ WS := in_t1 40 rfl rfl
theorem qiX8_init : Cond.instanceMethod yX8_init ∈ WS := in_t1 41 rfl rfl
theorem qfRX11_10 : Cond.fieldLink RX11 10 "LastMile" "town" "LLastMile$Town;" ∈ WS := in_t1 225 rfl rfl
theorem qn0 : Cond.instantiable RJx4a65c 3 ∈ WS := in_t1 73 rfl rfl
theorem qkRX11_16 : Cond.classLink RX11 16 "java/util/ArrayList" ∈ WS := in_t1 72 rfl rfl
theorem qcJx4a65c_init_da8c8 : Cond.code yJx4a65c_init_da8c8 cJx4a65c_init_da8c8 1 none ∈ WS := in_t1 76 rfl rfl
theorem qlRX11_18 : Cond.methodLink RX11 18 yJx4a65c_init_da8c8 ∈ WS := in_t1 74 rfl rfl
theorem qiJx4a65c_init_da8c8 : Cond.instanceMethod yJx4a65c_init_da8c8 ∈ WS := in_t1 75 rfl rfl
theorem qfRX11_19 : Cond.fieldLink RX11 19 "LastMile" "homes" "Ljava/util/ArrayList;" ∈ WS := in_t1 226 rfl rfl
theorem qfRX11_23 : Cond.fieldLink RX11 23 "LastMile" "lockers" "Ljava/util/ArrayList;" ∈ WS := in_t1 227 rfl rfl
theorem qfRX11_26 : Cond.fieldLink RX11 26 "LastMile" "vans" "Ljava/util/ArrayList;" ∈ WS := in_t1 228 rfl rfl
theorem qfRX11_29 : Cond.fieldLink RX11 29 "LastMile" "parcels" "Ljava/util/ArrayList;" ∈ WS := in_t1 229 rfl rfl
theorem qn8 : Cond.instantiable RX7 6 ∈ WS := in_t1 99 rfl rfl
theorem qzRX7 : Cond.initialized RX7 ∈ WS := in_t1 7 rfl rfl
theorem qkRX11_32 : Cond.classLink RX11 32 "LastMile$Schedule" ∈ WS := in_t1 98 rfl rfl
theorem qcX7_init : Cond.code yX7_init cX7_init 2 none ∈ WS := in_t1 102 rfl rfl
theorem qlRX11_34 : Cond.methodLink RX11 34 yX7_init ∈ WS := in_t1 100 rfl rfl
theorem qiX7_init : Cond.instanceMethod yX7_init ∈ WS := in_t1 101 rfl rfl
theorem qfRX11_37 : Cond.fieldLink RX11 37 "LastMile" "schedule" "LLastMile$Schedule;" ∈ WS := in_t1 230 rfl rfl
theorem qn6 : Cond.instantiable RX5 6 ∈ WS := in_t1 160 rfl rfl
theorem qkRX11_41 : Cond.classLink RX11 41 "LastMile$Round" ∈ WS := in_t1 159 rfl rfl
theorem qcX5_init : Cond.code yX5_init cX5_init 4 none ∈ WS := in_t1 163 rfl rfl
theorem qlRX11_43 : Cond.methodLink RX11 43 yX5_init ∈ WS := in_t1 161 rfl rfl
theorem qiX5_init : Cond.instanceMethod yX5_init ∈ WS := in_t1 162 rfl rfl
theorem qfRX11_46 : Cond.fieldLink RX11 46 "LastMile" "round" "LLastMile$Round;" ∈ WS := in_t1 231 rfl rfl
theorem qn1 : Cond.instantiable RX0 3 ∈ WS := in_t1 189 rfl rfl
theorem qzRX0 : Cond.initialized RX0 ∈ WS := in_t1 10 rfl rfl
theorem qkRX11_50 : Cond.classLink RX11 50 "LastMile$Choice" ∈ WS := in_t1 188 rfl rfl
theorem qcX0_init : Cond.code yX0_init cX0_init 1 none ∈ WS := in_t1 192 rfl rfl
theorem qiX0_init : Cond.instanceMethod yX0_init ∈ WS := in_t1 191 rfl rfl
theorem qfRX11_53 : Cond.fieldLink RX11 53 "LastMile" "choice" "LLastMile$Choice;" ∈ WS := in_t1 232 rfl rfl
theorem qkRX11_57 : Cond.classLink RX11 57 "LastMile$Route" ∈ WS := in_t1 207 rfl rfl
theorem qfRX11_60 : Cond.fieldLink RX11 60 "LastMile" "trial" "LLastMile$Route;" ∈ WS := in_t1 233 rfl rfl
theorem qfRX11_64 : Cond.fieldLink RX11 64 "LastMile" "rest" "LLastMile$Route;" ∈ WS := in_t1 234 rfl rfl
theorem qfRX11_67 : Cond.fieldLink RX11 67 "LastMile" "day" "I" ∈ WS := in_t1 235 rfl rfl
theorem qlRX11_71 : Cond.methodLink RX11 71 yX11_needIndex ∈ WS := in_t3 57 rfl rfl
theorem qsX11_needIndex : Cond.static yX11_needIndex ∈ WS := in_t3 58 rfl rfl
theorem qzRX11 : Cond.initialized RX11 ∈ WS := in_t1 1 rfl rfl
theorem qcX11_needIndex : Cond.code yX11_needIndex cX11_needIndex 2 none ∈ WS := in_t3 59 rfl rfl
theorem qlRX11_75 : Cond.methodLink RX11 75 yX11_needRange ∈ WS := in_t3 128 rfl rfl
theorem qsX11_needRange : Cond.static yX11_needRange ∈ WS := in_t3 129 rfl rfl
theorem qcX11_needRange : Cond.code yX11_needRange cX11_needRange 3 none ∈ WS := in_t3 130 rfl rfl
theorem qfRX11_79 : Cond.fieldLink RX11 79 "LastMile$Town" "slow" "[I" ∈ WS := in_t1 61 rfl rfl
theorem qlRX11_83 : Cond.methodLink RX11 83 yX11_needPlace ∈ WS := in_t3 154 rfl rfl
theorem qsX11_needPlace : Cond.static yX11_needPlace ∈ WS := in_t3 155 rfl rfl
theorem qcX11_needPlace : Cond.code yX11_needPlace cX11_needPlace 2 none ∈ WS := in_t3 156 rfl rfl
theorem qfRX11_86 : Cond.fieldLink RX11 86 "LastMile$Town" "depot" "LLastMile$Place;" ∈ WS := in_t1 65 rfl rfl
theorem qkRX11_90 : Cond.classLink RX11 90 "LastMile$Place" ∈ WS := in_t3 157 rfl rfl
theorem qlRX11_92 : Cond.methodLink RX11 92 yX4_init ∈ WS := in_t3 158 rfl rfl
theorem qfRX11_94 : Cond.fieldLink RX11 94 "LastMile$Place" "x" "I" ∈ WS := in_t1 51 rfl rfl
theorem qfRX11_97 : Cond.fieldLink RX11 97 "LastMile$Place" "y" "I" ∈ WS := in_t1 53 rfl rfl
theorem qtRX11_100 : Cond.constant RX11 100 16777215 ∈ WS := in_t3 167 rfl rfl
theorem qlRX11_101 : Cond.methodLink RX11 101 yJx4a65c_size_8abf5 ∈ WS := in_t2 23 rfl rfl
theorem qiJx4a65c_size_8abf5 : Cond.instanceMethod yJx4a65c_size_8abf5 ∈ WS := in_t2 24 rfl rfl
theorem qeJx4a65c_size_8abf5 : Cond.selects RJx4a65c yJx4a65c_size_8abf5 yJx4a65c_size_8abf5 ∈ WS := in_t2 25 rfl rfl
theorem qcJx4a65c_size_8abf5 : Cond.code yJx4a65c_size_8abf5 cJx4a65c_size_8abf5 1 (some .int) ∈ WS := in_t2 26 rfl rfl
theorem qlRX11_105 : Cond.methodLink RX11 105 yX11_needSpace ∈ WS := in_t3 168 rfl rfl
theorem qsX11_needSpace : Cond.static yX11_needSpace ∈ WS := in_t3 169 rfl rfl
theorem qcX11_needSpace : Cond.code yX11_needSpace cX11_needSpace 2 none ∈ WS := in_t3 170 rfl rfl
theorem qn2 : Cond.instantiable RX1 4 ∈ WS := in_t3 187 rfl rfl
theorem qkRX11_108 : Cond.classLink RX11 108 "LastMile$Home" ∈ WS := in_t3 12 rfl rfl
theorem qcX1_init : Cond.code yX1_init cX1_init 3 none ∈ WS := in_t3 190 rfl rfl
theorem qlRX11_110 : Cond.methodLink RX11 110 yX1_init ∈ WS := in_t3 188 rfl rfl
theorem qiX1_init : Cond.instanceMethod yX1_init ∈ WS := in_t3 189 rfl rfl
theorem qlRX11_113 : Cond.methodLink RX11 113 yJx4a65c_add_9ea2d ∈ WS := in_t3 213 rfl rfl
theorem qiJx4a65c_add_9ea2d : Cond.instanceMethod yJx4a65c_add_9ea2d ∈ WS := in_t3 214 rfl rfl
theorem qeJx4a65c_add_9ea2d : Cond.selects RJx4a65c yJx4a65c_add_9ea2d yJx4a65c_add_9ea2d ∈ WS := in_t3 215 rfl rfl
theorem qcJx4a65c_add_9ea2d : Cond.code yJx4a65c_add_9ea2d cJx4a65c_add_9ea2d 2 (some .boolean) ∈ WS := in_t3 216 rfl rfl
theorem qkRX11_117 : Cond.classLink RX11 117 nIA ∈ WS := in_t3 131 rfl rfl
theorem qz_nIA : Cond.initialized nIA ∈ WS := in_t1 19 rfl rfl
theorem qlRX11_124 : Cond.methodLink RX11 124 yJx4a65c_get_915e3 ∈ WS := in_t2 31 rfl rfl
theorem qfRX11_128 : Cond.fieldLink RX11 128 "LastMile$Home" "orderCount" "I" ∈ WS := in_t3 202 rfl rfl
theorem qfRX11_131 : Cond.fieldLink RX11 131 "LastMile$Home" "orders" "[I" ∈ WS := in_t3 199 rfl rfl
theorem qn3 : Cond.instantiable RX2 3 ∈ WS := in_t4 53 rfl rfl
theorem qkRX11_134 : Cond.classLink RX11 134 "LastMile$Locker" ∈ WS := in_t3 29 rfl rfl
theorem qcX2_init : Cond.code yX2_init cX2_init 5 none ∈ WS := in_t4 56 rfl rfl
theorem qlRX11_136 : Cond.methodLink RX11 136 yX2_init ∈ WS := in_t4 54 rfl rfl
theorem qiX2_init : Cond.instanceMethod yX2_init ∈ WS := in_t4 55 rfl rfl
theorem qn11 : Cond.instantiable RX10 5 ∈ WS := in_t4 79 rfl rfl
theorem qzRX10 : Cond.initialized RX10 ∈ WS := in_t1 28 rfl rfl
theorem qkRX11_139 : Cond.classLink RX11 139 "LastMile$Van" ∈ WS := in_t2 53 rfl rfl
theorem qcX10_init : Cond.code yX10_init cX10_init 5 none ∈ WS := in_t4 82 rfl rfl
theorem qlRX11_141 : Cond.methodLink RX11 141 yX10_init ∈ WS := in_t4 80 rfl rfl
theorem qiX10_init : Cond.instanceMethod yX10_init ∈ WS := in_t4 81 rfl rfl
theorem qn4 : Cond.instantiable RX3 14 ∈ WS := in_t4 119 rfl rfl
theorem qzRX3 : Cond.initialized RX3 ∈ WS := in_t1 29 rfl rfl
theorem qkRX11_144 : Cond.classLink RX11 144 "LastMile$Parcel" ∈ WS := in_t2 45 rfl rfl
theorem qcX3_init : Cond.code yX3_init cX3_init 8 none ∈ WS := in_t4 122 rfl rfl
theorem qlRX11_146 : Cond.methodLink RX11 146 yX3_init ∈ WS := in_t4 120 rfl rfl
theorem qiX3_init : Cond.instanceMethod yX3_init ∈ WS := in_t4 121 rfl rfl
theorem qlRX11_149 : Cond.methodLink RX11 149 yX11_factOfHome ∈ WS := in_t3 8 rfl rfl
theorem qiX11_factOfHome : Cond.instanceMethod yX11_factOfHome ∈ WS := in_t3 10 rfl rfl
theorem qeX11_factOfHome : Cond.selects RX11 yX11_factOfHome yX11_factOfHome ∈ WS := in_p2 0 rfl rfl
theorem qcX11_factOfHome : Cond.code yX11_factOfHome cX11_factOfHome 4 (some .int) ∈ WS := in_t3 11 rfl rfl
theorem qlRX11_153 : Cond.methodLink RX11 153 yX11_factOfLocker ∈ WS := in_t3 25 rfl rfl
theorem qiX11_factOfLocker : Cond.instanceMethod yX11_factOfLocker ∈ WS := in_t3 27 rfl rfl
theorem qeX11_factOfLocker : Cond.selects RX11 yX11_factOfLocker yX11_factOfLocker ∈ WS := in_p2 4 rfl rfl
theorem qcX11_factOfLocker : Cond.code yX11_factOfLocker cX11_factOfLocker 4 (some .int) ∈ WS := in_t3 28 rfl rfl
theorem qlRX11_156 : Cond.methodLink RX11 156 yX11_factOfParcel ∈ WS := in_t3 34 rfl rfl
theorem qiX11_factOfParcel : Cond.instanceMethod yX11_factOfParcel ∈ WS := in_t3 36 rfl rfl
theorem qeX11_factOfParcel : Cond.selects RX11 yX11_factOfParcel yX11_factOfParcel ∈ WS := in_p2 6 rfl rfl
theorem qcX11_factOfParcel : Cond.code yX11_factOfParcel cX11_factOfParcel 3 (some .int) ∈ WS := in_t3 37 rfl rfl
theorem qlRX11_160 : Cond.methodLink RX11 160 yX11_needSpot ∈ WS := in_t4 222 rfl rfl
theorem qiX11_needSpot : Cond.instanceMethod yX11_needSpot ∈ WS := in_t4 224 rfl rfl
theorem qeX11_needSpot : Cond.selects RX11 yX11_needSpot yX11_needSpot ∈ WS := in_p2 13 rfl rfl
theorem qcX11_needSpot : Cond.code yX11_needSpot cX11_needSpot 4 none ∈ WS := in_t4 225 rfl rfl
theorem qlRX11_163 : Cond.methodLink RX11 163 yX11_isLoose ∈ WS := in_t2 50 rfl rfl
theorem qsX11_isLoose : Cond.static yX11_isLoose ∈ WS := in_t2 51 rfl rfl
theorem qcX11_isLoose : Cond.code yX11_isLoose cX11_isLoose 1 (some .boolean) ∈ WS := in_t2 52 rfl rfl
theorem qlRX11_167 : Cond.methodLink RX11 167 yX11_addedCost ∈ WS := in_t4 226 rfl rfl
theorem qiX11_addedCost : Cond.instanceMethod yX11_addedCost ∈ WS := in_t4 228 rfl rfl
theorem qeX11_addedCost : Cond.selects RX11 yX11_addedCost yX11_addedCost ∈ WS := in_p2 14 rfl rfl
theorem qcX11_addedCost : Cond.code yX11_addedCost cX11_addedCost 4 (some .int) ∈ WS := in_t4 229 rfl rfl
theorem qtRX11_171 : Cond.constant RX11 171 1000000 ∈ WS := in_t4 230 rfl rfl
theorem qkRX11_172 : Cond.classLink RX11 172 nIS ∈ WS := in_t3 171 rfl rfl
theorem qz_nIS : Cond.initialized nIS ∈ WS := in_t1 20 rfl rfl
theorem qlRX11_177 : Cond.methodLink RX11 177 yX11_putIn ∈ WS := in_t2 126 rfl rfl
theorem qsX11_putIn : Cond.static yX11_putIn ∈ WS := in_t2 127 rfl rfl
theorem qcX11_putIn : Cond.code yX11_putIn cX11_putIn 3 none ∈ WS := in_t2 128 rfl rfl
theorem qfRX11_181 : Cond.fieldLink RX11 181 "LastMile$Parcel" "van" "LLastMile$Van;" ∈ WS := in_t4 150 rfl rfl
theorem qfRX11_187 : Cond.fieldLink RX11 187 "LastMile$Van" "row" "LLastMile$Route;" ∈ WS := in_t4 100 rfl rfl
theorem qlRX11_190 : Cond.methodLink RX11 190 yX7_follow ∈ WS := in_t2 58 rfl rfl
theorem qiX7_follow : Cond.instanceMethod yX7_follow ∈ WS := in_t2 59 rfl rfl
theorem qeX7_follow : Cond.selects RX7 yX7_follow yX7_follow ∈ WS := in_t2 60 rfl rfl
theorem qcX7_follow : Cond.code yX7_follow cX7_follow 6 (some .int) ∈ WS := in_t2 61 rfl rfl
theorem qlRX11_194 : Cond.methodLink RX11 194 yX11_takeOut ∈ WS := in_t2 141 rfl rfl
theorem qsX11_takeOut : Cond.static yX11_takeOut ∈ WS := in_t2 142 rfl rfl
theorem qcX11_takeOut : Cond.code yX11_takeOut cX11_takeOut 1 none ∈ WS := in_t2 143 rfl rfl
theorem qlRX11_198 : Cond.methodLink RX11 198 yX11_needStop ∈ WS := in_t5 7 rfl rfl
theorem qiX11_needStop : Cond.instanceMethod yX11_needStop ∈ WS := in_t5 9 rfl rfl
theorem qeX11_needStop : Cond.selects RX11 yX11_needStop yX11_needStop ∈ WS := in_p2 15 rfl rfl
theorem qcX11_needStop : Cond.code yX11_needStop cX11_needStop 3 none ∈ WS := in_t5 10 rfl rfl
theorem qlRX11_201 : Cond.methodLink RX11 201 yX6_at ∈ WS := in_t3 47 rfl rfl
theorem qfRX11_205 : Cond.fieldLink RX11 205 "LastMile$Parcel" "number" "I" ∈ WS := in_t4 125 rfl rfl
theorem qlRX11_208 : Cond.methodLink RX11 208 yX11_factOfVan ∈ WS := in_t3 42 rfl rfl
theorem qiX11_factOfVan : Cond.instanceMethod yX11_factOfVan ∈ WS := in_t3 44 rfl rfl
theorem qeX11_factOfVan : Cond.selects RX11 yX11_factOfVan yX11_factOfVan ∈ WS := in_p2 8 rfl rfl
theorem qcX11_factOfVan : Cond.code yX11_factOfVan cX11_factOfVan 4 (some .int) ∈ WS := in_t3 45 rfl rfl
theorem qfRX11_212 : Cond.fieldLink RX11 212 "LastMile$Schedule" "minutes" "[I" ∈ WS := in_t1 139 rfl rfl
theorem qfRX11_215 : Cond.fieldLink RX11 215 "LastMile$Schedule" "lates" "[I" ∈ WS := in_t1 141 rfl rfl
theorem qfRX11_218 : Cond.fieldLink RX11 218 "LastMile$Schedule" "loads" "[I" ∈ WS := in_t1 143 rfl rfl
theorem qfRX11_221 : Cond.fieldLink RX11 221 "LastMile$Parcel" "home" "LLastMile$Home;" ∈ WS := in_t4 141 rfl rfl
theorem qlRX11_225 : Cond.methodLink RX11 225 yX1_isSomebodyIn ∈ WS := in_t5 25 rfl rfl
theorem qlRX11_229 : Cond.methodLink RX11 229 yX0_forget ∈ WS := in_t2 27 rfl rfl
theorem qiX0_forget : Cond.instanceMethod yX0_forget ∈ WS := in_t2 28 rfl rfl
theorem qeX0_forget : Cond.selects RX0 yX0_forget yX0_forget ∈ WS := in_t2 29 rfl rfl
theorem qcX0_forget : Cond.code yX0_forget cX0_forget 1 none ∈ WS := in_t2 30 rfl rfl
theorem qlRX11_232 : Cond.methodLink RX11 232 yX11_weighPuttingIn ∈ WS := in_t2 46 rfl rfl
theorem qiX11_weighPuttingIn : Cond.instanceMethod yX11_weighPuttingIn ∈ WS := in_t2 48 rfl rfl
theorem qeX11_weighPuttingIn : Cond.selects RX11 yX11_weighPuttingIn yX11_weighPuttingIn ∈ WS := in_p1 0 rfl rfl
theorem qcX11_weighPuttingIn : Cond.code yX11_weighPuttingIn cX11_weighPuttingIn 3 none ∈ WS := in_t2 49 rfl rfl
theorem qfRX11_235 : Cond.fieldLink RX11 235 "LastMile$Choice" "parcel" "LLastMile$Parcel;" ∈ WS := in_t1 199 rfl rfl
theorem qfRX11_239 : Cond.fieldLink RX11 239 "LastMile$Choice" "spot" "I" ∈ WS := in_t1 197 rfl rfl
theorem qlRX11_242 : Cond.methodLink RX11 242 yX11_putInAtSpot ∈ WS := in_t2 122 rfl rfl
theorem qiX11_putInAtSpot : Cond.instanceMethod yX11_putInAtSpot ∈ WS := in_t2 124 rfl rfl
theorem qeX11_putInAtSpot : Cond.selects RX11 yX11_putInAtSpot yX11_putInAtSpot ∈ WS := in_p1 3 rfl rfl
theorem qcX11_putInAtSpot : Cond.code yX11_putInAtSpot cX11_putInAtSpot 3 none ∈ WS := in_t2 125 rfl rfl
theorem qfRX11_246 : Cond.fieldLink RX11 246 "LastMile$Route" "size" "I" ∈ WS := in_t1 219 rfl rfl
theorem qlRX11_248 : Cond.methodLink RX11 248 yX6_copy ∈ WS := in_t2 101 rfl rfl
theorem qiX6_copy : Cond.instanceMethod yX6_copy ∈ WS := in_t2 102 rfl rfl
theorem qeX6_copy : Cond.selects RX6 yX6_copy yX6_copy ∈ WS := in_t2 103 rfl rfl
theorem qcX6_copy : Cond.code yX6_copy cX6_copy 3 none ∈ WS := in_t2 104 rfl rfl
theorem qlRX11_252 : Cond.methodLink RX11 252 yX6_turn ∈ WS := in_t5 47 rfl rfl
theorem qiX6_turn : Cond.instanceMethod yX6_turn ∈ WS := in_t5 48 rfl rfl
theorem qeX6_turn : Cond.selects RX6 yX6_turn yX6_turn ∈ WS := in_t5 49 rfl rfl
theorem qcX6_turn : Cond.code yX6_turn cX6_turn 6 none ∈ WS := in_t5 50 rfl rfl
theorem qfRX11_255 : Cond.fieldLink RX11 255 "LastMile$Van" "room" "I" ∈ WS := in_t4 89 rfl rfl
theorem qlRX11_258 : Cond.methodLink RX11 258 yX6_fits ∈ WS := in_t2 109 rfl rfl
theorem qiX6_fits : Cond.instanceMethod yX6_fits ∈ WS := in_t2 110 rfl rfl
theorem qeX6_fits : Cond.selects RX6 yX6_fits yX6_fits ∈ WS := in_t2 111 rfl rfl
theorem qcX6_fits : Cond.code yX6_fits cX6_fits 2 (some .boolean) ∈ WS := in_t2 112 rfl rfl
theorem qlRX11_261 : Cond.methodLink RX11 261 yX11_weighMoving ∈ WS := in_t2 133 rfl rfl
theorem qiX11_weighMoving : Cond.instanceMethod yX11_weighMoving ∈ WS := in_t2 135 rfl rfl
theorem qeX11_weighMoving : Cond.selects RX11 yX11_weighMoving yX11_weighMoving ∈ WS := in_p1 4 rfl rfl
theorem qcX11_weighMoving : Cond.code yX11_weighMoving cX11_weighMoving 6 none ∈ WS := in_t2 136 rfl rfl
theorem qfRX11_264 : Cond.fieldLink RX11 264 "LastMile$Choice" "change" "I" ∈ WS := in_t1 195 rfl rfl
theorem qlRX11_267 : Cond.methodLink RX11 267 yX11_counted ∈ WS := in_t2 224 rfl rfl
theorem qiX11_counted : Cond.instanceMethod yX11_counted ∈ WS := in_t2 226 rfl rfl
theorem qeX11_counted : Cond.selects RX11 yX11_counted yX11_counted ∈ WS := in_p1 11 rfl rfl
theorem qcX11_counted : Cond.code yX11_counted cX11_counted 2 (some .int) ∈ WS := in_t2 227 rfl rfl
theorem qlRX11_271 : Cond.methodLink RX11 271 yX11_driveVans ∈ WS := in_t2 148 rfl rfl
theorem qiX11_driveVans : Cond.instanceMethod yX11_driveVans ∈ WS := in_t2 150 rfl rfl
theorem qeX11_driveVans : Cond.selects RX11 yX11_driveVans yX11_driveVans ∈ WS := in_p1 5 rfl rfl
theorem qcX11_driveVans : Cond.code yX11_driveVans cX11_driveVans 2 none ∈ WS := in_t2 151 rfl rfl
theorem qfRX11_274 : Cond.fieldLink RX11 274 "LastMile$Round" "done" "I" ∈ WS := in_t1 172 rfl rfl
theorem qlRX11_277 : Cond.methodLink RX11 277 yX11_inState ∈ WS := in_t2 228 rfl rfl
theorem qiX11_inState : Cond.instanceMethod yX11_inState ∈ WS := in_t2 230 rfl rfl
theorem qeX11_inState : Cond.selects RX11 yX11_inState yX11_inState ∈ WS := in_p1 12 rfl rfl
theorem qcX11_inState : Cond.code yX11_inState cX11_inState 4 (some .int) ∈ WS := in_t2 231 rfl rfl
theorem qlRX11_280 : Cond.methodLink RX11 280 yX11_keepAll ∈ WS := in_t5 65 rfl rfl
theorem qiX11_keepAll : Cond.instanceMethod yX11_keepAll ∈ WS := in_t5 67 rfl rfl
theorem qeX11_keepAll : Cond.selects RX11 yX11_keepAll yX11_keepAll ∈ WS := in_p3 0 rfl rfl
theorem qcX11_keepAll : Cond.code yX11_keepAll cX11_keepAll 2 none ∈ WS := in_t5 68 rfl rfl
theorem qlRX11_283 : Cond.methodLink RX11 283 yX11_giveBackAll ∈ WS := in_t5 78 rfl rfl
theorem qiX11_giveBackAll : Cond.instanceMethod yX11_giveBackAll ∈ WS := in_t5 80 rfl rfl
theorem qeX11_giveBackAll : Cond.selects RX11 yX11_giveBackAll yX11_giveBackAll ∈ WS := in_p3 1 rfl rfl
theorem qcX11_giveBackAll : Cond.code yX11_giveBackAll cX11_giveBackAll 2 none ∈ WS := in_t5 81 rfl rfl
theorem qfRX11_286 : Cond.fieldLink RX11 286 "LastMile$Round" "latest" "I" ∈ WS := in_t1 174 rfl rfl
theorem qlRX11_289 : Cond.methodLink RX11 289 yX1_hoursFrom ∈ WS := in_t5 97 rfl rfl
theorem qiX1_hoursFrom : Cond.instanceMethod yX1_hoursFrom ∈ WS := in_t5 98 rfl rfl
theorem qeX1_hoursFrom : Cond.selects RX1 yX1_hoursFrom yX1_hoursFrom ∈ WS := in_t5 99 rfl rfl
theorem qcX1_hoursFrom : Cond.code yX1_hoursFrom cX1_hoursFrom 4 (some .int) ∈ WS := in_t5 100 rfl rfl
theorem qtRX11_299 : Cond.constantLong RX11 299 859 ∈ WS := in_t2 223 rfl rfl
theorem qlRX11_301 : Cond.methodLink RX11 301 yX11_mixed ∈ WS := in_t3 0 rfl rfl
theorem qsX11_mixed : Cond.static yX11_mixed ∈ WS := in_t3 1 rfl rfl
theorem qcX11_mixed : Cond.code yX11_mixed cX11_mixed 4 (some .long) ∈ WS := in_t3 2 rfl rfl
theorem qlRX11_305 : Cond.methodLink RX11 305 yX11_withHomes ∈ WS := in_t3 4 rfl rfl
theorem qiX11_withHomes : Cond.instanceMethod yX11_withHomes ∈ WS := in_t3 6 rfl rfl
theorem qeX11_withHomes : Cond.selects RX11 yX11_withHomes yX11_withHomes ∈ WS := in_p1 15 rfl rfl
theorem qcX11_withHomes : Cond.code yX11_withHomes cX11_withHomes 8 (some .long) ∈ WS := in_t3 7 rfl rfl
theorem qlRX11_309 : Cond.methodLink RX11 309 yX11_withLockers ∈ WS := in_t3 21 rfl rfl
theorem qiX11_withLockers : Cond.instanceMethod yX11_withLockers ∈ WS := in_t3 23 rfl rfl
theorem qeX11_withLockers : Cond.selects RX11 yX11_withLockers yX11_withLockers ∈ WS := in_p2 3 rfl rfl
theorem qcX11_withLockers : Cond.code yX11_withLockers cX11_withLockers 7 (some .long) ∈ WS := in_t3 24 rfl rfl
theorem qlRX11_312 : Cond.methodLink RX11 312 yX11_withParcels ∈ WS := in_t3 30 rfl rfl
theorem qiX11_withParcels : Cond.instanceMethod yX11_withParcels ∈ WS := in_t3 32 rfl rfl
theorem qeX11_withParcels : Cond.selects RX11 yX11_withParcels yX11_withParcels ∈ WS := in_p2 5 rfl rfl
theorem qcX11_withParcels : Cond.code yX11_withParcels cX11_withParcels 7 (some .long) ∈ WS := in_t3 33 rfl rfl
theorem qlRX11_315 : Cond.methodLink RX11 315 yX11_withVans ∈ WS := in_t3 38 rfl rfl
theorem qiX11_withVans : Cond.instanceMethod yX11_withVans ∈ WS := in_t3 40 rfl rfl
theorem qeX11_withVans : Cond.selects RX11 yX11_withVans yX11_withVans ∈ WS := in_p2 7 rfl rfl
theorem qcX11_withVans : Cond.code yX11_withVans cX11_withVans 8 (some .long) ∈ WS := in_t3 41 rfl rfl
theorem qkRX11_318 : Cond.classLink RX11 318 nIO ∈ WS := in_t3 60 rfl rfl
theorem qz_nIO : Cond.initialized nIO ∈ WS := in_t1 18 rfl rfl
theorem qfRX11_327 : Cond.fieldLink RX11 327 "LastMile$Home" "place" "LLastMile$Place;" ∈ WS := in_t3 195 rfl rfl
theorem qfRX11_330 : Cond.fieldLink RX11 330 "LastMile$Home" "hours" "I" ∈ WS := in_t3 197 rfl rfl
theorem qlRX11_333 : Cond.methodLink RX11 333 yX11_waitingFor ∈ WS := in_t3 13 rfl rfl
theorem qiX11_waitingFor : Cond.instanceMethod yX11_waitingFor ∈ WS := in_t3 15 rfl rfl
theorem qeX11_waitingFor : Cond.selects RX11 yX11_waitingFor yX11_waitingFor ∈ WS := in_p2 1 rfl rfl
theorem qcX11_waitingFor : Cond.code yX11_waitingFor cX11_waitingFor 5 (some .int) ∈ WS := in_t3 16 rfl rfl
theorem qlRX11_336 : Cond.methodLink RX11 336 yX11_lyingAt ∈ WS := in_t3 17 rfl rfl
theorem qiX11_lyingAt : Cond.instanceMethod yX11_lyingAt ∈ WS := in_t3 19 rfl rfl
theorem qeX11_lyingAt : Cond.selects RX11 yX11_lyingAt yX11_lyingAt ∈ WS := in_p2 2 rfl rfl
theorem qcX11_lyingAt : Cond.code yX11_lyingAt cX11_lyingAt 6 (some .int) ∈ WS := in_t3 20 rfl rfl
theorem qfRX11_339 : Cond.fieldLink RX11 339 "LastMile$Locker" "place" "LLastMile$Place;" ∈ WS := in_t4 60 rfl rfl
theorem qfRX11_340 : Cond.fieldLink RX11 340 "LastMile$Locker" "free" "[I" ∈ WS := in_t4 63 rfl rfl
theorem qfRX11_343 : Cond.fieldLink RX11 343 "LastMile$Parcel" "kind" "I" ∈ WS := in_t4 130 rfl rfl
theorem qfRX11_346 : Cond.fieldLink RX11 346 "LastMile$Parcel" "volume" "I" ∈ WS := in_t4 135 rfl rfl
theorem qfRX11_349 : Cond.fieldLink RX11 349 "LastMile$Parcel" "homeNumber" "I" ∈ WS := in_t4 137 rfl rfl
theorem qfRX11_352 : Cond.fieldLink RX11 352 "LastMile$Parcel" "from" "I" ∈ WS := in_t4 145 rfl rfl
theorem qfRX11_355 : Cond.fieldLink RX11 355 "LastMile$Parcel" "till" "I" ∈ WS := in_t4 148 rfl rfl
theorem qfRX11_292 : Cond.fieldLink RX11 292 "LastMile$Parcel" "attempts" "I" ∈ WS := in_t4 153 rfl rfl
theorem qfRX11_358 : Cond.fieldLink RX11 358 "LastMile$Parcel" "state" "I" ∈ WS := in_t4 156 rfl rfl
theorem qfRX11_361 : Cond.fieldLink RX11 361 "LastMile$Van" "number" "I" ∈ WS := in_t4 87 rfl rfl
theorem qfRX11_362 : Cond.fieldLink RX11 362 "LastMile$Parcel" "where" "I" ∈ WS := in_t4 159 rfl rfl
theorem qfRX11_365 : Cond.fieldLink RX11 365 "LastMile$Van" "start" "I" ∈ WS := in_t4 93 rfl rfl
theorem qfRX11_368 : Cond.fieldLink RX11 368 "LastMile$Van" "end" "I" ∈ WS := in_t4 97 rfl rfl
theorem qfRX11_371 : Cond.fieldLink RX11 371 "LastMile$Schedule" "trip" "LLastMile$Trip;" ∈ WS := in_t1 137 rfl rfl
theorem qfRX11_375 : Cond.fieldLink RX11 375 "LastMile$Trip" "going" "I" ∈ WS := in_t1 119 rfl rfl
theorem qfRX11_380 : Cond.fieldLink RX11 380 "LastMile$Schedule" "lateness" "I" ∈ WS := in_t1 145 rfl rfl
theorem qfRX11_383 : Cond.fieldLink RX11 383 "LastMile$Trip" "minute" "I" ∈ WS := in_t1 116 rfl rfl
theorem qfRX11_386 : Cond.fieldLink RX11 386 "LastMile$Trip" "breaks" "I" ∈ WS := in_t1 121 rfl rfl
theorem qlRX11_389 : Cond.methodLink RX11 389 yX6_greatestLoad ∈ WS := in_t3 46 rfl rfl
theorem qlRX11_392 : Cond.methodLink RX11 392 yX11_looseParcels ∈ WS := in_t2 232 rfl rfl
theorem qiX11_looseParcels : Cond.instanceMethod yX11_looseParcels ∈ WS := in_t2 234 rfl rfl
theorem qeX11_looseParcels : Cond.selects RX11 yX11_looseParcels yX11_looseParcels ∈ WS := in_p1 13 rfl rfl
theorem qcX11_looseParcels : Cond.code yX11_looseParcels cX11_looseParcels 3 (some .int) ∈ WS := in_t2 235 rfl rfl
theorem qlRX11_395 : Cond.methodLink RX11 395 yX11_costOfAll ∈ WS := in_t2 236 rfl rfl
theorem qiX11_costOfAll : Cond.instanceMethod yX11_costOfAll ∈ WS := in_t2 238 rfl rfl
theorem qeX11_costOfAll : Cond.selects RX11 yX11_costOfAll yX11_costOfAll ∈ WS := in_p1 14 rfl rfl
theorem qcX11_costOfAll : Cond.code yX11_costOfAll cX11_costOfAll 3 (some .int) ∈ WS := in_t2 239 rfl rfl
theorem qlRX11_398 : Cond.methodLink RX11 398 yX6_insert ∈ WS := in_t2 105 rfl rfl
theorem qiX6_insert : Cond.instanceMethod yX6_insert ∈ WS := in_t2 106 rfl rfl
theorem qeX6_insert : Cond.selects RX6 yX6_insert yX6_insert ∈ WS := in_t2 107 rfl rfl
theorem qcX6_insert : Cond.code yX6_insert cX6_insert 4 none ∈ WS := in_t2 108 rfl rfl
theorem qlRX11_401 : Cond.methodLink RX11 401 yX6_remove ∈ WS := in_t2 137 rfl rfl
theorem qiX6_remove : Cond.instanceMethod yX6_remove ∈ WS := in_t2 138 rfl rfl
theorem qeX6_remove : Cond.selects RX6 yX6_remove yX6_remove ∈ WS := in_t2 139 rfl rfl
theorem qcX6_remove : Cond.code yX6_remove cX6_remove 4 none ∈ WS := in_t2 140 rfl rfl
theorem qlRX11_404 : Cond.methodLink RX11 404 yX11_weighPlaces ∈ WS := in_t2 54 rfl rfl
theorem qiX11_weighPlaces : Cond.instanceMethod yX11_weighPlaces ∈ WS := in_t2 56 rfl rfl
theorem qeX11_weighPlaces : Cond.selects RX11 yX11_weighPlaces yX11_weighPlaces ∈ WS := in_p1 1 rfl rfl
theorem qcX11_weighPlaces : Cond.code yX11_weighPlaces cX11_weighPlaces 8 none ∈ WS := in_t2 57 rfl rfl
theorem qlRX11_408 : Cond.methodLink RX11 408 yX0_weigh ∈ WS := in_t2 118 rfl rfl
theorem qiX0_weigh : Cond.instanceMethod yX0_weigh ∈ WS := in_t2 119 rfl rfl
theorem qeX0_weigh : Cond.selects RX0 yX0_weigh yX0_weigh ∈ WS := in_t2 120 rfl rfl
theorem qcX0_weigh : Cond.code yX0_weigh cX0_weigh 4 none ∈ WS := in_t2 121 rfl rfl
theorem qlRX11_412 : Cond.methodLink RX11 412 yX5_begin ∈ WS := in_t2 152 rfl rfl
theorem qiX5_begin : Cond.instanceMethod yX5_begin ∈ WS := in_t2 153 rfl rfl
theorem qeX5_begin : Cond.selects RX5 yX5_begin yX5_begin ∈ WS := in_t2 154 rfl rfl
theorem qcX5_begin : Cond.code yX5_begin cX5_begin 1 none ∈ WS := in_t2 155 rfl rfl
theorem qlRX11_415 : Cond.methodLink RX11 415 yX5_driveVan ∈ WS := in_t2 156 rfl rfl
theorem qiX5_driveVan : Cond.instanceMethod yX5_driveVan ∈ WS := in_t2 157 rfl rfl
theorem qeX5_driveVan : Cond.selects RX5 yX5_driveVan yX5_driveVan ∈ WS := in_t2 158 rfl rfl
theorem qcX5_driveVan : Cond.code yX5_driveVan cX5_driveVan 4 none ∈ WS := in_t2 159 rfl rfl
theorem qlRX11_419 : Cond.methodLink RX11 419 yX5_endDay ∈ WS := in_t2 204 rfl rfl
theorem qiX5_endDay : Cond.instanceMethod yX5_endDay ∈ WS := in_t2 205 rfl rfl
theorem qeX5_endDay : Cond.selects RX5 yX5_endDay yX5_endDay ∈ WS := in_t2 206 rfl rfl
theorem qcX5_endDay : Cond.code yX5_endDay cX5_endDay 3 none ∈ WS := in_t2 207 rfl rfl
theorem qlRX11_422 : Cond.methodLink RX11 422 yX3_keep ∈ WS := in_t5 69 rfl rfl
theorem qiX3_keep : Cond.instanceMethod yX3_keep ∈ WS := in_t5 70 rfl rfl
theorem qeX3_keep : Cond.selects RX3 yX3_keep yX3_keep ∈ WS := in_t5 71 rfl rfl
theorem qcX3_keep : Cond.code yX3_keep cX3_keep 1 none ∈ WS := in_t5 72 rfl rfl
theorem qlRX11_425 : Cond.methodLink RX11 425 yX2_keep ∈ WS := in_t5 73 rfl rfl
theorem qiX2_keep : Cond.instanceMethod yX2_keep ∈ WS := in_t5 74 rfl rfl
theorem qeX2_keep : Cond.selects RX2 yX2_keep yX2_keep ∈ WS := in_t5 75 rfl rfl
theorem qcX2_keep : Cond.code yX2_keep cX2_keep 1 none ∈ WS := in_t5 76 rfl rfl
theorem qlRX11_426 : Cond.methodLink RX11 426 yX3_giveBack ∈ WS := in_t5 82 rfl rfl
theorem qiX3_giveBack : Cond.instanceMethod yX3_giveBack ∈ WS := in_t5 83 rfl rfl
theorem qeX3_giveBack : Cond.selects RX3 yX3_giveBack yX3_giveBack ∈ WS := in_t5 84 rfl rfl
theorem qcX3_giveBack : Cond.code yX3_giveBack cX3_giveBack 1 none ∈ WS := in_t5 85 rfl rfl
theorem qlRX11_429 : Cond.methodLink RX11 429 yX2_giveBack ∈ WS := in_t5 86 rfl rfl
theorem qiX2_giveBack : Cond.instanceMethod yX2_giveBack ∈ WS := in_t5 87 rfl rfl
theorem qeX2_giveBack : Cond.selects RX2 yX2_giveBack yX2_giveBack ∈ WS := in_t5 88 rfl rfl
theorem qcX2_giveBack : Cond.code yX2_giveBack cX2_giveBack 1 none ∈ WS := in_t5 89 rfl rfl
theorem qtRX11_430 : Cond.constantLong RX11 430 31 ∈ WS := in_t3 3 rfl rfl
theorem qfRX12_3 : Cond.fieldLink RX12 3 "LastMileModel$State" "this$0" "LLastMileModel;" ∈ WS := in_t5 135 rfl rfl
theorem qlRX12_9 : Cond.methodLink RX12 9 objectInit ∈ WS := in_t5 112 rfl rfl
theorem qfRX12_15 : Cond.fieldLink RX12 15 "LastMileModel$State" "how" "[I" ∈ WS := in_t5 117 rfl rfl
theorem qfRX12_19 : Cond.fieldLink RX12 19 "LastMileModel$State" "attempts" "[I" ∈ WS := in_t5 119 rfl rfl
theorem qfRX12_22 : Cond.fieldLink RX12 22 "LastMileModel$State" "where" "[I" ∈ WS := in_t5 121 rfl rfl
theorem qfRX12_25 : Cond.fieldLink RX12 25 "LastMileModel$State" "box" "[I" ∈ WS := in_t5 123 rfl rfl
theorem qfRX12_28 : Cond.fieldLink RX12 28 "LastMileModel$State" "lain" "[I" ∈ WS := in_t5 124 rfl rfl
theorem qfRX12_31 : Cond.fieldLink RX12 31 "LastMileModel$State" "free" "[I" ∈ WS := in_t5 125 rfl rfl
theorem qfRX12_34 : Cond.fieldLink RX12 34 "LastMileModel$State" "many" "[I" ∈ WS := in_t5 127 rfl rfl
theorem qfRX12_37 : Cond.fieldLink RX12 37 "LastMileModel$State" "route" "[I" ∈ WS := in_t5 129 rfl rfl
theorem qlRX12_40 : Cond.methodLink RX12 40 arraycopyName ∈ WS := in_t7 71 rfl rfl
theorem qfRX12_46 : Cond.fieldLink RX12 46 "LastMileModel$State" "day" "I" ∈ WS := in_t5 113 rfl rfl
theorem qlRX12_50 : Cond.methodLink RX12 50 yX12_copy ∈ WS := in_t7 67 rfl rfl
theorem qiX12_copy : Cond.instanceMethod yX12_copy ∈ WS := in_t7 69 rfl rfl
theorem qeX12_copy : Cond.selects RX12 yX12_copy yX12_copy ∈ WS := in_p5 0 rfl rfl
theorem qzRX12 : Cond.initialized RX12 ∈ WS := in_t1 13 rfl rfl
theorem qcX12_copy : Cond.code yX12_copy cX12_copy 3 none ∈ WS := in_t7 70 rfl rfl
theorem qfRX12_60 : Cond.fieldLink RX12 60 "LastMileModel$State" "now" "I" ∈ WS := in_t5 131 rfl rfl
theorem qfRX12_63 : Cond.fieldLink RX12 63 "LastMileModel$State" "x" "I" ∈ WS := in_t5 133 rfl rfl
theorem qfRX12_66 : Cond.fieldLink RX12 66 "LastMileModel$State" "y" "I" ∈ WS := in_t5 134 rfl rfl
theorem qcX13_apart : Cond.code yX13_apart cX13_apart 4 (some .int) ∈ WS := in_t6 170 rfl rfl
theorem qzRX13 : Cond.initialized RX13 ∈ WS := in_t1 12 rfl rfl
theorem qsX13_apart : Cond.static yX13_apart ∈ WS := in_t6 169 rfl rfl
theorem qcX13_minutes : Cond.code yX13_minutes cX13_minutes 3 (some .int) ∈ WS := in_t6 177 rfl rfl
theorem qiX13_minutes : Cond.instanceMethod yX13_minutes ∈ WS := in_t6 176 rfl rfl
theorem qeX13_minutes : Cond.selects RX13 yX13_minutes yX13_minutes ∈ WS := in_p3 15 rfl rfl
theorem qfRX12_77 : Cond.fieldLink RX12 77 "LastMileModel$State" "base" "I" ∈ WS := in_t5 132 rfl rfl
theorem qlRX12_80 : Cond.methodLink RX12 80 yX12_goTo ∈ WS := in_t7 38 rfl rfl
theorem qiX12_goTo : Cond.instanceMethod yX12_goTo ∈ WS := in_t7 40 rfl rfl
theorem qeX12_goTo : Cond.selects RX12 yX12_goTo yX12_goTo ∈ WS := in_p4 11 rfl rfl
theorem qcX12_goTo : Cond.code yX12_goTo cX12_goTo 3 none ∈ WS := in_t7 41 rfl rfl
theorem qlRX12_96 : Cond.methodLink RX12 96 yX12_boxFor ∈ WS := in_t7 51 rfl rfl
theorem qiX12_boxFor : Cond.instanceMethod yX12_boxFor ∈ WS := in_t7 53 rfl rfl
theorem qeX12_boxFor : Cond.selects RX12 yX12_boxFor yX12_boxFor ∈ WS := in_p4 14 rfl rfl
theorem qcX12_boxFor : Cond.code yX12_boxFor cX12_boxFor 5 (some .int) ∈ WS := in_t7 54 rfl rfl
theorem qlRX12_114 : Cond.methodLink RX12 114 yX12_isHome ∈ WS := in_t7 43 rfl rfl
theorem qiX12_isHome : Cond.instanceMethod yX12_isHome ∈ WS := in_t7 45 rfl rfl
theorem qeX12_isHome : Cond.selects RX12 yX12_isHome yX12_isHome ∈ WS := in_p4 12 rfl rfl
theorem qcX12_isHome : Cond.code yX12_isHome cX12_isHome 2 (some .boolean) ∈ WS := in_t7 46 rfl rfl
theorem qlRX12_118 : Cond.methodLink RX12 118 yX12_work ∈ WS := in_t7 32 rfl rfl
theorem qiX12_work : Cond.instanceMethod yX12_work ∈ WS := in_t7 34 rfl rfl
theorem qeX12_work : Cond.selects RX12 yX12_work yX12_work ∈ WS := in_p4 10 rfl rfl
theorem qcX12_work : Cond.code yX12_work cX12_work 3 none ∈ WS := in_t7 35 rfl rfl
theorem qlRX12_124 : Cond.methodLink RX12 124 Lib.Math.max.name ∈ WS := in_t7 42 rfl rfl
theorem qs_max : Cond.static Lib.Math.max.name ∈ WS := in_t3 233 rfl rfl
theorem qz_Math : Cond.initialized "java/lang/Math" ∈ WS := in_t1 23 rfl rfl
theorem qc_max : Cond.code Lib.Math.max.name Lib.Math.max.code 2 (some .int) ∈ WS := in_t3 234 rfl rfl
theorem qlRX12_129 : Cond.methodLink RX12 129 yX12_isPlaced ∈ WS := in_t7 47 rfl rfl
theorem qiX12_isPlaced : Cond.instanceMethod yX12_isPlaced ∈ WS := in_t7 49 rfl rfl
theorem qeX12_isPlaced : Cond.selects RX12 yX12_isPlaced yX12_isPlaced ∈ WS := in_p4 13 rfl rfl
theorem qcX12_isPlaced : Cond.code yX12_isPlaced cX12_isPlaced 6 (some .boolean) ∈ WS := in_t7 50 rfl rfl
theorem qfRX12_132 : Cond.fieldLink RX12 132 "LastMileModel$State" "latest" "I" ∈ WS := in_t5 115 rfl rfl
theorem qlRX12_147 : Cond.methodLink RX12 147 yX12_isDone ∈ WS := in_t7 28 rfl rfl
theorem qiX12_isDone : Cond.instanceMethod yX12_isDone ∈ WS := in_t7 30 rfl rfl
theorem qeX12_isDone : Cond.selects RX12 yX12_isDone yX12_isDone ∈ WS := in_p4 9 rfl rfl
theorem qcX12_isDone : Cond.code yX12_isDone cX12_isDone 4 (some .boolean) ∈ WS := in_t7 31 rfl rfl
theorem qlRX12_153 : Cond.methodLink RX12 153 yX12_open ∈ WS := in_t7 55 rfl rfl
theorem qiX12_open : Cond.instanceMethod yX12_open ∈ WS := in_t7 57 rfl rfl
theorem qeX12_open : Cond.selects RX12 yX12_open yX12_open ∈ WS := in_p4 15 rfl rfl
theorem qcX12_open : Cond.code yX12_open cX12_open 3 none ∈ WS := in_t7 58 rfl rfl
theorem qlRX13_1 : Cond.methodLink RX13 1 objectInit ∈ WS := in_t5 106 rfl rfl
theorem qfRX13_7 : Cond.fieldLink RX13 7 "LastMileModel" "slow" "[I" ∈ WS := in_t5 171 rfl rfl
theorem qfRX13_13 : Cond.fieldLink RX13 13 "LastMileModel" "depotX" "I" ∈ WS := in_t5 172 rfl rfl
theorem qfRX13_17 : Cond.fieldLink RX13 17 "LastMileModel" "depotY" "I" ∈ WS := in_t5 174 rfl rfl
theorem qfRX13_20 : Cond.fieldLink RX13 20 "LastMileModel" "homeX" "[I" ∈ WS := in_t5 177 rfl rfl
theorem qfRX13_23 : Cond.fieldLink RX13 23 "LastMileModel" "homeY" "[I" ∈ WS := in_t5 179 rfl rfl
theorem qfRX13_26 : Cond.fieldLink RX13 26 "LastMileModel" "hours" "[I" ∈ WS := in_t5 181 rfl rfl
theorem qfRX13_29 : Cond.fieldLink RX13 29 "LastMileModel" "orders" "[I" ∈ WS := in_t5 183 rfl rfl
theorem qfRX13_32 : Cond.fieldLink RX13 32 "LastMileModel" "order" "[I" ∈ WS := in_t5 185 rfl rfl
theorem qfRX13_35 : Cond.fieldLink RX13 35 "LastMileModel" "lockerX" "[I" ∈ WS := in_t5 188 rfl rfl
theorem qfRX13_38 : Cond.fieldLink RX13 38 "LastMileModel" "lockerY" "[I" ∈ WS := in_t5 190 rfl rfl
theorem qfRX13_41 : Cond.fieldLink RX13 41 "LastMileModel" "room" "[I" ∈ WS := in_t5 194 rfl rfl
theorem qfRX13_44 : Cond.fieldLink RX13 44 "LastMileModel" "start" "[I" ∈ WS := in_t5 195 rfl rfl
theorem qfRX13_47 : Cond.fieldLink RX13 47 "LastMileModel" "end" "[I" ∈ WS := in_t5 197 rfl rfl
theorem qfRX13_50 : Cond.fieldLink RX13 50 "LastMileModel" "kind" "[I" ∈ WS := in_t5 201 rfl rfl
theorem qfRX13_53 : Cond.fieldLink RX13 53 "LastMileModel" "volume" "[I" ∈ WS := in_t5 203 rfl rfl
theorem qfRX13_56 : Cond.fieldLink RX13 56 "LastMileModel" "homeOf" "[I" ∈ WS := in_t5 205 rfl rfl
theorem qfRX13_59 : Cond.fieldLink RX13 59 "LastMileModel" "from" "[I" ∈ WS := in_t5 207 rfl rfl
theorem qfRX13_62 : Cond.fieldLink RX13 62 "LastMileModel" "till" "[I" ∈ WS := in_t5 209 rfl rfl
theorem qn13 : Cond.instantiable RX12 15 ∈ WS := in_t5 108 rfl rfl
theorem qkRX13_65 : Cond.classLink RX13 65 "LastMileModel$State" ∈ WS := in_t5 107 rfl rfl
theorem qcX12_init : Cond.code yX12_init cX12_init 2 none ∈ WS := in_t5 111 rfl rfl
theorem qiX12_init : Cond.instanceMethod yX12_init ∈ WS := in_t5 110 rfl rfl
theorem qfRX13_70 : Cond.fieldLink RX13 70 "LastMileModel" "s" "LLastMileModel$State;" ∈ WS := in_t5 210 rfl rfl
theorem qfRX13_74 : Cond.fieldLink RX13 74 "LastMileModel" "ahead" "LLastMileModel$State;" ∈ WS := in_t5 211 rfl rfl
theorem qfRX13_77 : Cond.fieldLink RX13 77 "LastMileModel" "line" "[I" ∈ WS := in_t5 212 rfl rfl
theorem qfRX13_80 : Cond.fieldLink RX13 80 "LastMileModel" "minute" "[I" ∈ WS := in_t5 214 rfl rfl
theorem qfRX13_83 : Cond.fieldLink RX13 83 "LastMileModel" "late" "[I" ∈ WS := in_t5 215 rfl rfl
theorem qfRX13_86 : Cond.fieldLink RX13 86 "LastMileModel" "load" "[I" ∈ WS := in_t5 216 rfl rfl
theorem qlRX13_89 : Cond.methodLink RX13 89 yJ7_fill_53178 ∈ WS := in_t5 167 rfl rfl
theorem qsJ7_fill_53178 : Cond.static yJ7_fill_53178 ∈ WS := in_t5 168 rfl rfl
theorem qzRJ7 : Cond.initialized RJ7 ∈ WS := in_t1 14 rfl rfl
theorem qcJ7_fill_53178 : Cond.code yJ7_fill_53178 cJ7_fill_53178 4 none ∈ WS := in_t5 169 rfl rfl
theorem qfRX13_95 : Cond.fieldLink RX13 95 "LastMileModel" "thrown" "I" ∈ WS := in_t5 170 rfl rfl
theorem qlRX13_98 : Cond.methodLink RX13 98 yX13_isIn ∈ WS := in_t6 64 rfl rfl
theorem qsX13_isIn : Cond.static yX13_isIn ∈ WS := in_t6 65 rfl rfl
theorem qcX13_isIn : Cond.code yX13_isIn cX13_isIn 3 (some .boolean) ∈ WS := in_t6 66 rfl rfl
theorem qlRX13_102 : Cond.methodLink RX13 102 Lib.Math.abs.name ∈ WS := in_t6 171 rfl rfl
theorem qs_abs : Cond.static Lib.Math.abs.name ∈ WS := in_t6 172 rfl rfl
theorem qc_abs : Cond.code Lib.Math.abs.name Lib.Math.abs.code 1 (some .int) ∈ WS := in_t6 173 rfl rfl
theorem qfRX13_108 : Cond.fieldLink RX13 108 "LastMileModel" "homes" "I" ∈ WS := in_t5 176 rfl rfl
theorem qfRX13_111 : Cond.fieldLink RX13 111 "LastMileModel" "lockers" "I" ∈ WS := in_t5 187 rfl rfl
theorem qfRX13_114 : Cond.fieldLink RX13 114 "LastMileModel" "vans" "I" ∈ WS := in_t5 193 rfl rfl
theorem qfRX13_117 : Cond.fieldLink RX13 117 "LastMileModel" "parcels" "I" ∈ WS := in_t5 199 rfl rfl
theorem qlRX13_120 : Cond.methodLink RX13 120 yX13_no ∈ WS := in_t6 67 rfl rfl
theorem qiX13_no : Cond.instanceMethod yX13_no ∈ WS := in_t6 69 rfl rfl
theorem qeX13_no : Cond.selects RX13 yX13_no yX13_no ∈ WS := in_p3 2 rfl rfl
theorem qcX13_no : Cond.code yX13_no cX13_no 2 (some .int) ∈ WS := in_t6 70 rfl rfl
theorem qlRX13_123 : Cond.methodLink RX13 123 yX13_isPlace ∈ WS := in_t6 75 rfl rfl
theorem qsX13_isPlace : Cond.static yX13_isPlace ∈ WS := in_t6 76 rfl rfl
theorem qcX13_isPlace : Cond.code yX13_isPlace cX13_isPlace 2 (some .boolean) ∈ WS := in_t6 77 rfl rfl
theorem qtRX13_127 : Cond.constant RX13 127 16777215 ∈ WS := in_t6 82 rfl rfl
theorem qlRX13_128 : Cond.methodLink RX13 128 yX13_isHomeNumber ∈ WS := in_t6 87 rfl rfl
theorem qiX13_isHomeNumber : Cond.instanceMethod yX13_isHomeNumber ∈ WS := in_t6 89 rfl rfl
theorem qeX13_isHomeNumber : Cond.selects RX13 yX13_isHomeNumber yX13_isHomeNumber ∈ WS := in_p3 3 rfl rfl
theorem qcX13_isHomeNumber : Cond.code yX13_isHomeNumber cX13_isHomeNumber 2 (some .boolean) ∈ WS := in_t6 90 rfl rfl
theorem qlRX13_132 : Cond.methodLink RX13 132 yX13_isLocker ∈ WS := in_t6 91 rfl rfl
theorem qiX13_isLocker : Cond.instanceMethod yX13_isLocker ∈ WS := in_t6 93 rfl rfl
theorem qeX13_isLocker : Cond.selects RX13 yX13_isLocker yX13_isLocker ∈ WS := in_p3 4 rfl rfl
theorem qcX13_isLocker : Cond.code yX13_isLocker cX13_isLocker 2 (some .boolean) ∈ WS := in_t6 94 rfl rfl
theorem qlRX13_138 : Cond.methodLink RX13 138 arraycopyName ∈ WS := in_t6 99 rfl rfl
theorem qlRX13_150 : Cond.methodLink RX13 150 yX13_homeTold ∈ WS := in_t6 112 rfl rfl
theorem qiX13_homeTold : Cond.instanceMethod yX13_homeTold ∈ WS := in_t6 114 rfl rfl
theorem qeX13_homeTold : Cond.selects RX13 yX13_homeTold yX13_homeTold ∈ WS := in_p3 5 rfl rfl
theorem qcX13_homeTold : Cond.code yX13_homeTold cX13_homeTold 6 (some .int) ∈ WS := in_t6 115 rfl rfl
theorem qlRX13_154 : Cond.methodLink RX13 154 yX13_lockerTold ∈ WS := in_t6 120 rfl rfl
theorem qiX13_lockerTold : Cond.instanceMethod yX13_lockerTold ∈ WS := in_t6 122 rfl rfl
theorem qeX13_lockerTold : Cond.selects RX13 yX13_lockerTold yX13_lockerTold ∈ WS := in_p3 6 rfl rfl
theorem qcX13_lockerTold : Cond.code yX13_lockerTold cX13_lockerTold 5 (some .int) ∈ WS := in_t6 123 rfl rfl
theorem qlRX13_160 : Cond.methodLink RX13 160 yX12_vanOf ∈ WS := in_t6 136 rfl rfl
theorem qiX12_vanOf : Cond.instanceMethod yX12_vanOf ∈ WS := in_t6 137 rfl rfl
theorem qeX12_vanOf : Cond.selects RX12 yX12_vanOf yX12_vanOf ∈ WS := in_t6 138 rfl rfl
theorem qcX12_vanOf : Cond.code yX12_vanOf cX12_vanOf 4 (some .int) ∈ WS := in_t6 139 rfl rfl
theorem qlRX13_163 : Cond.methodLink RX13 163 yX13_isParcel ∈ WS := in_t6 128 rfl rfl
theorem qiX13_isParcel : Cond.instanceMethod yX13_isParcel ∈ WS := in_t6 130 rfl rfl
theorem qeX13_isParcel : Cond.selects RX13 yX13_isParcel yX13_isParcel ∈ WS := in_p3 7 rfl rfl
theorem qcX13_isParcel : Cond.code yX13_isParcel cX13_isParcel 2 (some .boolean) ∈ WS := in_t6 131 rfl rfl
theorem qlRX13_166 : Cond.methodLink RX13 166 yX13_parcelTold ∈ WS := in_t6 132 rfl rfl
theorem qiX13_parcelTold : Cond.instanceMethod yX13_parcelTold ∈ WS := in_t6 134 rfl rfl
theorem qeX13_parcelTold : Cond.selects RX13 yX13_parcelTold yX13_parcelTold ∈ WS := in_p3 8 rfl rfl
theorem qcX13_parcelTold : Cond.code yX13_parcelTold cX13_parcelTold 4 (some .int) ∈ WS := in_t6 135 rfl rfl
theorem qfRX13_172 : Cond.fieldLink RX13 172 "LastMileModel" "length" "I" ∈ WS := in_t5 213 rfl rfl
theorem qfRX13_178 : Cond.fieldLink RX13 178 "LastMileModel" "going" "I" ∈ WS := in_t5 217 rfl rfl
theorem qfRX13_181 : Cond.fieldLink RX13 181 "LastMileModel" "lateness" "I" ∈ WS := in_t5 218 rfl rfl
theorem qfRX13_184 : Cond.fieldLink RX13 184 "LastMileModel" "breaks" "I" ∈ WS := in_t5 220 rfl rfl
theorem qfRX13_187 : Cond.fieldLink RX13 187 "LastMileModel" "fullest" "I" ∈ WS := in_t5 221 rfl rfl
theorem qlRX13_190 : Cond.methodLink RX13 190 yX13_apart ∈ WS := in_t6 168 rfl rfl
theorem qlRX13_194 : Cond.methodLink RX13 194 yX13_minutes ∈ WS := in_t6 174 rfl rfl
theorem qlRX13_197 : Cond.methodLink RX13 197 Lib.Math.max.name ∈ WS := in_t6 178 rfl rfl
theorem qfRX13_200 : Cond.fieldLink RX13 200 "LastMileModel" "back" "I" ∈ WS := in_t5 219 rfl rfl
theorem qlRX13_203 : Cond.methodLink RX13 203 yX13_look ∈ WS := in_t6 160 rfl rfl
theorem qiX13_look : Cond.instanceMethod yX13_look ∈ WS := in_t6 162 rfl rfl
theorem qeX13_look : Cond.selects RX13 yX13_look yX13_look ∈ WS := in_p3 13 rfl rfl
theorem qcX13_look : Cond.code yX13_look cX13_look 2 none ∈ WS := in_t6 163 rfl rfl
theorem qlRX13_207 : Cond.methodLink RX13 207 yX13_cost ∈ WS := in_t6 164 rfl rfl
theorem qiX13_cost : Cond.instanceMethod yX13_cost ∈ WS := in_t6 166 rfl rfl
theorem qeX13_cost : Cond.selects RX13 yX13_cost yX13_cost ∈ WS := in_p3 14 rfl rfl
theorem qcX13_cost : Cond.code yX13_cost cX13_cost 14 (some .int) ∈ WS := in_t6 167 rfl rfl
theorem qlRX13_210 : Cond.methodLink RX13 210 yX13_routeCost ∈ WS := in_t6 156 rfl rfl
theorem qiX13_routeCost : Cond.instanceMethod yX13_routeCost ∈ WS := in_t6 158 rfl rfl
theorem qeX13_routeCost : Cond.selects RX13 yX13_routeCost yX13_routeCost ∈ WS := in_p3 12 rfl rfl
theorem qcX13_routeCost : Cond.code yX13_routeCost cX13_routeCost 2 (some .int) ∈ WS := in_t6 159 rfl rfl
theorem qlRX13_213 : Cond.methodLink RX13 213 yX13_insert ∈ WS := in_t6 179 rfl rfl
theorem qiX13_insert : Cond.instanceMethod yX13_insert ∈ WS := in_t6 181 rfl rfl
theorem qeX13_insert : Cond.selects RX13 yX13_insert yX13_insert ∈ WS := in_p4 0 rfl rfl
theorem qcX13_insert : Cond.code yX13_insert cX13_insert 3 none ∈ WS := in_t6 182 rfl rfl
theorem qtRX13_217 : Cond.constant RX13 217 1000000 ∈ WS := in_t6 183 rfl rfl
theorem qlRX13_218 : Cond.methodLink RX13 218 yX13_isVan ∈ WS := in_t6 144 rfl rfl
theorem qiX13_isVan : Cond.instanceMethod yX13_isVan ∈ WS := in_t6 146 rfl rfl
theorem qeX13_isVan : Cond.selects RX13 yX13_isVan yX13_isVan ∈ WS := in_p3 9 rfl rfl
theorem qcX13_isVan : Cond.code yX13_isVan cX13_isVan 2 (some .boolean) ∈ WS := in_t6 147 rfl rfl
theorem qlRX13_221 : Cond.methodLink RX13 221 yX13_isFree ∈ WS := in_t6 148 rfl rfl
theorem qiX13_isFree : Cond.instanceMethod yX13_isFree ∈ WS := in_t6 150 rfl rfl
theorem qeX13_isFree : Cond.selects RX13 yX13_isFree yX13_isFree ∈ WS := in_p3 10 rfl rfl
theorem qcX13_isFree : Cond.code yX13_isFree cX13_isFree 2 (some .boolean) ∈ WS := in_t6 151 rfl rfl
theorem qlRX13_224 : Cond.methodLink RX13 224 yX13_more ∈ WS := in_t6 152 rfl rfl
theorem qiX13_more : Cond.instanceMethod yX13_more ∈ WS := in_t6 154 rfl rfl
theorem qeX13_more : Cond.selects RX13 yX13_more yX13_more ∈ WS := in_p3 11 rfl rfl
theorem qcX13_more : Cond.code yX13_more cX13_more 6 (some .int) ∈ WS := in_t6 155 rfl rfl
theorem qlRX13_228 : Cond.methodLink RX13 228 yX13_keep ∈ WS := in_t6 184 rfl rfl
theorem qiX13_keep : Cond.instanceMethod yX13_keep ∈ WS := in_t6 186 rfl rfl
theorem qeX13_keep : Cond.selects RX13 yX13_keep yX13_keep ∈ WS := in_p4 1 rfl rfl
theorem qcX13_keep : Cond.code yX13_keep cX13_keep 2 none ∈ WS := in_t6 187 rfl rfl
theorem qlRX13_231 : Cond.methodLink RX13 231 yX13_remove ∈ WS := in_t6 192 rfl rfl
theorem qiX13_remove : Cond.instanceMethod yX13_remove ∈ WS := in_t6 194 rfl rfl
theorem qeX13_remove : Cond.selects RX13 yX13_remove yX13_remove ∈ WS := in_p4 2 rfl rfl
theorem qcX13_remove : Cond.code yX13_remove cX13_remove 2 none ∈ WS := in_t6 195 rfl rfl
theorem qlRX13_234 : Cond.methodLink RX13 234 yX13_vanTold ∈ WS := in_t6 204 rfl rfl
theorem qiX13_vanTold : Cond.instanceMethod yX13_vanTold ∈ WS := in_t6 206 rfl rfl
theorem qeX13_vanTold : Cond.selects RX13 yX13_vanTold yX13_vanTold ∈ WS := in_p4 3 rfl rfl
theorem qcX13_vanTold : Cond.code yX13_vanTold cX13_vanTold 5 (some .int) ∈ WS := in_t6 207 rfl rfl
theorem qfRX13_237 : Cond.fieldLink RX13 237 "LastMileModel" "leastMore" "I" ∈ WS := in_t5 222 rfl rfl
theorem qlRX13_240 : Cond.methodLink RX13 240 yX13_best ∈ WS := in_t6 220 rfl rfl
theorem qiX13_best : Cond.instanceMethod yX13_best ∈ WS := in_t6 222 rfl rfl
theorem qeX13_best : Cond.selects RX13 yX13_best yX13_best ∈ WS := in_p4 4 rfl rfl
theorem qcX13_best : Cond.code yX13_best cX13_best 6 (some .int) ∈ WS := in_t6 223 rfl rfl
theorem qlRX13_243 : Cond.methodLink RX13 243 yX13_turn ∈ WS := in_t6 232 rfl rfl
theorem qiX13_turn : Cond.instanceMethod yX13_turn ∈ WS := in_t6 234 rfl rfl
theorem qeX13_turn : Cond.selects RX13 yX13_turn yX13_turn ∈ WS := in_p4 5 rfl rfl
theorem qcX13_turn : Cond.code yX13_turn cX13_turn 6 none ∈ WS := in_t6 235 rfl rfl
theorem qlRX13_246 : Cond.methodLink RX13 246 yX13_placeOf ∈ WS := in_t7 4 rfl rfl
theorem qiX13_placeOf : Cond.instanceMethod yX13_placeOf ∈ WS := in_t7 6 rfl rfl
theorem qeX13_placeOf : Cond.selects RX13 yX13_placeOf yX13_placeOf ∈ WS := in_p4 7 rfl rfl
theorem qcX13_placeOf : Cond.code yX13_placeOf cX13_placeOf 4 (some .int) ∈ WS := in_t7 7 rfl rfl
theorem qlRX13_249 : Cond.methodLink RX13 249 yX13_moved ∈ WS := in_t7 0 rfl rfl
theorem qiX13_moved : Cond.instanceMethod yX13_moved ∈ WS := in_t7 2 rfl rfl
theorem qeX13_moved : Cond.selects RX13 yX13_moved yX13_moved ∈ WS := in_p4 6 rfl rfl
theorem qcX13_moved : Cond.code yX13_moved cX13_moved 8 (some .int) ∈ WS := in_t7 3 rfl rfl
theorem qlRX13_255 : Cond.methodLink RX13 255 yX12_how ∈ WS := in_t7 16 rfl rfl
theorem qiX12_how : Cond.instanceMethod yX12_how ∈ WS := in_t7 17 rfl rfl
theorem qeX12_how : Cond.selects RX12 yX12_how yX12_how ∈ WS := in_t7 18 rfl rfl
theorem qcX12_how : Cond.code yX12_how cX12_how 4 (some .int) ∈ WS := in_t7 19 rfl rfl
theorem qlRX13_257 : Cond.methodLink RX13 257 yX13_counted ∈ WS := in_t7 12 rfl rfl
theorem qiX13_counted : Cond.instanceMethod yX13_counted ∈ WS := in_t7 14 rfl rfl
theorem qeX13_counted : Cond.selects RX13 yX13_counted yX13_counted ∈ WS := in_p4 8 rfl rfl
theorem qcX13_counted : Cond.code yX13_counted cX13_counted 5 (some .int) ∈ WS := in_t7 15 rfl rfl
theorem qlRX13_260 : Cond.methodLink RX13 260 yX12_drive ∈ WS := in_t7 24 rfl rfl
theorem qiX12_drive : Cond.instanceMethod yX12_drive ∈ WS := in_t7 25 rfl rfl
theorem qeX12_drive : Cond.selects RX12 yX12_drive yX12_drive ∈ WS := in_t7 26 rfl rfl
theorem qcX12_drive : Cond.code yX12_drive cX12_drive 4 (some .int) ∈ WS := in_t7 27 rfl rfl
theorem qlRX13_264 : Cond.methodLink RX13 264 yX12_become ∈ WS := in_t7 63 rfl rfl
theorem qiX12_become : Cond.instanceMethod yX12_become ∈ WS := in_t7 64 rfl rfl
theorem qeX12_become : Cond.selects RX12 yX12_become yX12_become ∈ WS := in_t7 65 rfl rfl
theorem qcX12_become : Cond.code yX12_become cX12_become 2 none ∈ WS := in_t7 66 rfl rfl
theorem qtRX13_271 : Cond.constantLong RX13 271 859 ∈ WS := in_t7 84 rfl rfl
theorem qtRX13_273 : Cond.constantLong RX13 273 31 ∈ WS := in_t7 85 rfl rfl
theorem nzF_0 {U : State} (h : Zn U) : va_Nw (.fieldLinkNest RX2 22 "LastMile" "BOX_VOLUMES" "[I" "LastMile") U := h.1 ("LastMile$Locker", 22, "LastMile", "BOX_VOLUMES", "[I", "LastMile") (List.mem_of_getElem? (i := 0) rfl)
theorem nzM_2 {U : State} (h : Zn U) : va_Nw (.methodLinkNest RX10 9 yX6_init "LastMile") U := h.2 ("LastMile$Van", 9, ⟨"LastMile$Route", "<init>", "()V"⟩, "LastMile") (List.mem_of_getElem? (i := 2) rfl)
theorem nzM_0 {U : State} (h : Zn U) : va_Nw (.methodLinkNest RX11 52 yX0_init "LastMile") U := h.2 ("LastMile", 52, ⟨"LastMile$Choice", "<init>", "()V"⟩, "LastMile") (List.mem_of_getElem? (i := 0) rfl)
theorem nzM_1 {U : State} (h : Zn U) : va_Nw (.methodLinkNest RX11 59 yX6_init "LastMile") U := h.2 ("LastMile", 59, ⟨"LastMile$Route", "<init>", "()V"⟩, "LastMile") (List.mem_of_getElem? (i := 1) rfl)
theorem nzF_19 {U : State} (h : Zn U) : va_Nw (.fieldLinkNest RX12 54 "LastMileModel" "vans" "I" "LastMileModel") U := h.1 ("LastMileModel$State", 54, "LastMileModel", "vans", "I", "LastMileModel") (List.mem_of_getElem? (i := 19) rfl)
theorem nzF_20 {U : State} (h : Zn U) : va_Nw (.fieldLinkNest RX12 57 "LastMileModel" "volume" "[I" "LastMileModel") U := h.1 ("LastMileModel$State", 57, "LastMileModel", "volume", "[I", "LastMileModel") (List.mem_of_getElem? (i := 20) rfl)
theorem nzM_4 {U : State} (h : Zn U) : va_Nw (.methodLinkNest RX12 69 yX13_apart "LastMileModel") U := h.2 ("LastMileModel$State", 69, ⟨"LastMileModel", "apart", "(IIII)I"⟩, "LastMileModel") (List.mem_of_getElem? (i := 4) rfl)
theorem nzM_5 {U : State} (h : Zn U) : va_Nw (.methodLinkNest RX12 73 yX13_minutes "LastMileModel") U := h.2 ("LastMileModel$State", 73, ⟨"LastMileModel", "minutes", "(II)I"⟩, "LastMileModel") (List.mem_of_getElem? (i := 5) rfl)
theorem nzF_21 {U : State} (h : Zn U) : va_Nw (.fieldLinkNest RX12 84 "LastMileModel" "hours" "[I" "LastMileModel") U := h.1 ("LastMileModel$State", 84, "LastMileModel", "hours", "[I", "LastMileModel") (List.mem_of_getElem? (i := 21) rfl)
theorem nzF_22 {U : State} (h : Zn U) : va_Nw (.fieldLinkNest RX12 87 "LastMileModel" "homeOf" "[I" "LastMileModel") U := h.1 ("LastMileModel$State", 87, "LastMileModel", "homeOf", "[I", "LastMileModel") (List.mem_of_getElem? (i := 22) rfl)
theorem nzF_23 {U : State} (h : Zn U) : va_Nw (.fieldLinkNest RX12 90 "LastMileModel" "orders" "[I" "LastMileModel") U := h.1 ("LastMileModel$State", 90, "LastMileModel", "orders", "[I", "LastMileModel") (List.mem_of_getElem? (i := 23) rfl)
theorem nzF_24 {U : State} (h : Zn U) : va_Nw (.fieldLinkNest RX12 93 "LastMileModel" "order" "[I" "LastMileModel") U := h.1 ("LastMileModel$State", 93, "LastMileModel", "order", "[I", "LastMileModel") (List.mem_of_getElem? (i := 24) rfl)
theorem nzF_25 {U : State} (h : Zn U) : va_Nw (.fieldLinkNest RX12 99 "LastMileModel" "kind" "[I" "LastMileModel") U := h.1 ("LastMileModel$State", 99, "LastMileModel", "kind", "[I", "LastMileModel") (List.mem_of_getElem? (i := 25) rfl)
theorem nzF_9 {U : State} (h : Zn U) : va_Nw (.fieldLinkNest RX12 102 "LastMileModel" "homeX" "[I" "LastMileModel") U := h.1 ("LastMileModel$State", 102, "LastMileModel", "homeX", "[I", "LastMileModel") (List.mem_of_getElem? (i := 9) rfl)
theorem nzF_10 {U : State} (h : Zn U) : va_Nw (.fieldLinkNest RX12 105 "LastMileModel" "homeY" "[I" "LastMileModel") U := h.1 ("LastMileModel$State", 105, "LastMileModel", "homeY", "[I", "LastMileModel") (List.mem_of_getElem? (i := 10) rfl)
theorem nzF_11 {U : State} (h : Zn U) : va_Nw (.fieldLinkNest RX12 108 "LastMileModel" "lockerX" "[I" "LastMileModel") U := h.1 ("LastMileModel$State", 108, "LastMileModel", "lockerX", "[I", "LastMileModel") (List.mem_of_getElem? (i := 11) rfl)
theorem nzF_12 {U : State} (h : Zn U) : va_Nw (.fieldLinkNest RX12 111 "LastMileModel" "lockerY" "[I" "LastMileModel") U := h.1 ("LastMileModel$State", 111, "LastMileModel", "lockerY", "[I", "LastMileModel") (List.mem_of_getElem? (i := 12) rfl)
theorem nzF_13 {U : State} (h : Zn U) : va_Nw (.fieldLinkNest RX12 121 "LastMileModel" "from" "[I" "LastMileModel") U := h.1 ("LastMileModel$State", 121, "LastMileModel", "from", "[I", "LastMileModel") (List.mem_of_getElem? (i := 13) rfl)
theorem nzF_14 {U : State} (h : Zn U) : va_Nw (.fieldLinkNest RX12 135 "LastMileModel" "start" "[I" "LastMileModel") U := h.1 ("LastMileModel$State", 135, "LastMileModel", "start", "[I", "LastMileModel") (List.mem_of_getElem? (i := 14) rfl)
theorem nzF_15 {U : State} (h : Zn U) : va_Nw (.fieldLinkNest RX12 138 "LastMileModel" "depotX" "I" "LastMileModel") U := h.1 ("LastMileModel$State", 138, "LastMileModel", "depotX", "I", "LastMileModel") (List.mem_of_getElem? (i := 15) rfl)
theorem nzF_16 {U : State} (h : Zn U) : va_Nw (.fieldLinkNest RX12 141 "LastMileModel" "depotY" "I" "LastMileModel") U := h.1 ("LastMileModel$State", 141, "LastMileModel", "depotY", "I", "LastMileModel") (List.mem_of_getElem? (i := 16) rfl)
theorem nzF_17 {U : State} (h : Zn U) : va_Nw (.fieldLinkNest RX12 144 "LastMileModel" "end" "[I" "LastMileModel") U := h.1 ("LastMileModel$State", 144, "LastMileModel", "end", "[I", "LastMileModel") (List.mem_of_getElem? (i := 17) rfl)
theorem nzF_18 {U : State} (h : Zn U) : va_Nw (.fieldLinkNest RX12 150 "LastMileModel" "parcels" "I" "LastMileModel") U := h.1 ("LastMileModel$State", 150, "LastMileModel", "parcels", "I", "LastMileModel") (List.mem_of_getElem? (i := 18) rfl)
theorem nzM_3 {U : State} (h : Zn U) : va_Nw (.methodLinkNest RX13 67 yX12_init "LastMileModel") U := h.2 ("LastMileModel", 67, ⟨"LastMileModel$State", "<init>", "(LLastMileModel;)V"⟩, "LastMileModel") (List.mem_of_getElem? (i := 3) rfl)
theorem nzF_1 {U : State} (h : Zn U) : va_Nw (.fieldLinkNest RX13 135 "LastMileModel$State" "free" "[I" "LastMileModel") U := h.1 ("LastMileModel", 135, "LastMileModel$State", "free", "[I", "LastMileModel") (List.mem_of_getElem? (i := 1) rfl)
theorem nzF_2 {U : State} (h : Zn U) : va_Nw (.fieldLinkNest RX13 144 "LastMileModel$State" "where" "[I" "LastMileModel") U := h.1 ("LastMileModel", 144, "LastMileModel$State", "where", "[I", "LastMileModel") (List.mem_of_getElem? (i := 2) rfl)
theorem nzF_3 {U : State} (h : Zn U) : va_Nw (.fieldLinkNest RX13 147 "LastMileModel$State" "how" "[I" "LastMileModel") U := h.1 ("LastMileModel", 147, "LastMileModel$State", "how", "[I", "LastMileModel") (List.mem_of_getElem? (i := 3) rfl)
theorem nzF_4 {U : State} (h : Zn U) : va_Nw (.fieldLinkNest RX13 157 "LastMileModel$State" "attempts" "[I" "LastMileModel") U := h.1 ("LastMileModel", 157, "LastMileModel$State", "attempts", "[I", "LastMileModel") (List.mem_of_getElem? (i := 4) rfl)
theorem nzF_5 {U : State} (h : Zn U) : va_Nw (.fieldLinkNest RX13 169 "LastMileModel$State" "many" "[I" "LastMileModel") U := h.1 ("LastMileModel", 169, "LastMileModel$State", "many", "[I", "LastMileModel") (List.mem_of_getElem? (i := 5) rfl)
theorem nzF_6 {U : State} (h : Zn U) : va_Nw (.fieldLinkNest RX13 175 "LastMileModel$State" "route" "[I" "LastMileModel") U := h.1 ("LastMileModel", 175, "LastMileModel$State", "route", "[I", "LastMileModel") (List.mem_of_getElem? (i := 6) rfl)
theorem nzF_7 {U : State} (h : Zn U) : va_Nw (.fieldLinkNest RX13 252 "LastMileModel$State" "day" "I" "LastMileModel") U := h.1 ("LastMileModel", 252, "LastMileModel$State", "day", "I", "LastMileModel") (List.mem_of_getElem? (i := 7) rfl)
theorem nzF_8 {U : State} (h : Zn U) : va_Nw (.fieldLinkNest RX13 268 "LastMileModel$State" "latest" "I" "LastMileModel") U := h.1 ("LastMileModel", 268, "LastMileModel$State", "latest", "I", "LastMileModel") (List.mem_of_getElem? (i := 8) rfl)
def rX0_init : Room := { frames := 1, cells := 0, slots := 0, locals := 64 }
def rX0_forget : Room := { frames := 0, cells := 0, slots := 0, locals := 0 }
def rX0_weigh : Room := { frames := 0, cells := 0, slots := 0, locals := 0 }
def rX1_init : Room := { frames := 1, cells := 1, slots := 3, locals := 64 }
def rX1_isSomebodyIn : Room := { frames := 1, cells := 0, slots := 0, locals := 20 }
def rX8_hourOf : Room := { frames := 0, cells := 0, slots := 0, locals := 0 }
def rX1_hoursFrom : Room := { frames := 0, cells := 0, slots := 0, locals := 0 }
def rX2_init : Room := { frames := 1, cells := 2, slots := 6, locals := 64 }
def rX2_boxFor : Room := { frames := 0, cells := 0, slots := 0, locals := 0 }
def rX2_keep : Room := { frames := 1, cells := 0, slots := 0, locals := 64 }
def rX2_giveBack : Room := { frames := 1, cells := 0, slots := 0, locals := 64 }
def rX3_init : Room := { frames := 1, cells := 1, slots := 5, locals := 64 }
def rX3_keep : Room := { frames := 0, cells := 0, slots := 0, locals := 0 }
def rX3_giveBack : Room := { frames := 0, cells := 0, slots := 0, locals := 0 }
def rX4_init : Room := { frames := 1, cells := 0, slots := 0, locals := 64 }
def rX4_distanceTo : Room := { frames := 0, cells := 0, slots := 0, locals := 0 }
def rX6_init : Room := { frames := 1, cells := 1, slots := 13, locals := 64 }
def rX6_at : Room := { frames := 0, cells := 0, slots := 0, locals := 0 }
def rX6_copy : Room := { frames := 0, cells := 0, slots := 0, locals := 0 }
def rX6_insert : Room := { frames := 0, cells := 0, slots := 0, locals := 0 }
def rX6_remove : Room := { frames := 0, cells := 0, slots := 0, locals := 0 }
def rX6_turn : Room := { frames := 0, cells := 0, slots := 0, locals := 0 }
def rX6_fits : Room := { frames := 2, cells := 0, slots := 0, locals := 45 }
def rX6_greatestLoad : Room := { frames := 1, cells := 0, slots := 0, locals := 22 }
def rX6_loadAtDepot : Room := { frames := 0, cells := 0, slots := 0, locals := 0 }
def rX8_init : Room := { frames := 2, cells := 2, slots := 26, locals := 86 }
def rX8_minutesOf : Room := { frames := 1, cells := 0, slots := 0, locals := 23 }
def rX9_init : Room := { frames := 1, cells := 0, slots := 0, locals := 64 }
def rX9_begin : Room := { frames := 0, cells := 0, slots := 0, locals := 0 }
def rX9_goWithBreak : Room := { frames := 2, cells := 0, slots := 0, locals := 46 }
def rX9_arrive : Room := { frames := 0, cells := 0, slots := 0, locals := 0 }
def rX9_goStraight : Room := { frames := 2, cells := 0, slots := 0, locals := 46 }
def rX9_waitTill : Room := { frames := 0, cells := 0, slots := 0, locals := 0 }
def rX9_stay : Room := { frames := 0, cells := 0, slots := 0, locals := 0 }
def rX10_init : Room := { frames := 2, cells := 2, slots := 15, locals := 84 }
def rX5_init : Room := { frames := 2, cells := 1, slots := 6, locals := 85 }
def rX5_begin : Room := { frames := 0, cells := 0, slots := 0, locals := 0 }
def rX5_driveVan : Room := { frames := 6, cells := 0, slots := 0, locals := 177 }
def rX5_visit : Room := { frames := 3, cells := 0, slots := 0, locals := 68 }
def rX5_tryOrders : Room := { frames := 5, cells := 0, slots := 0, locals := 153 }
def rX5_settle : Room := { frames := 0, cells := 0, slots := 0, locals := 0 }
def rX5_tryNeighbour : Room := { frames := 4, cells := 0, slots := 0, locals := 128 }
def rX5_tryLocker : Room := { frames := 4, cells := 0, slots := 0, locals := 128 }
def rJx4a65c_get_915e3 : Room := { frames := 3, cells := 0, slots := 0, locals := 107 }
def rX5_endDay : Room := { frames := 4, cells := 0, slots := 0, locals := 128 }
def rX5_emptyBox : Room := { frames := 0, cells := 0, slots := 0, locals := 0 }
def rX7_init : Room := { frames := 2, cells := 4, slots := 42, locals := 85 }
def rX7_follow : Room := { frames := 3, cells := 0, slots := 0, locals := 68 }
def rX11_init : Room := { frames := 4, cells := 19, slots := 133, locals := 124 }
def rJx4a65c_init_da8c8 : Room := { frames := 3, cells := 0, slots := 0, locals := 104 }
def rX11_setRoads : Room := { frames := 8, cells := 2, slots := 12, locals := 152 }
def rX11_needIndex : Room := { frames := 7, cells := 1, slots := 6, locals := 130 }
def rX11_needRange : Room := { frames := 7, cells := 1, slots := 6, locals := 130 }
def rX11_setDepot : Room := { frames := 9, cells := 3, slots := 14, locals := 173 }
def rX11_needPlace : Room := { frames := 8, cells := 2, slots := 12, locals := 152 }
def rX11_addHome : Room := { frames := 9, cells := 8, slots := 73, locals := 196 }
def rJx4a65c_size_8abf5 : Room := { frames := 0, cells := 0, slots := 0, locals := 0 }
def rX11_needSpace : Room := { frames := 7, cells := 1, slots := 6, locals := 130 }
def rJx4a65c_add_9ea2d : Room := { frames := 6, cells := 1, slots := 40, locals := 175 }
def rX11_order : Room := { frames := 8, cells := 4, slots := 24, locals := 151 }
def rX11_addLocker : Room := { frames := 9, cells := 11, slots := 87, locals := 196 }
def rX11_addVan : Room := { frames := 8, cells := 8, slots := 84, locals := 196 }
def rX11_addParcel : Room := { frames := 8, cells := 9, slots := 95, locals := 196 }
def rX11_home : Room := { frames := 8, cells := 2, slots := 12, locals := 176 }
def rX11_factOfHome : Room := { frames := 5, cells := 0, slots := 0, locals := 153 }
def rX11_locker : Room := { frames := 8, cells := 2, slots := 12, locals := 176 }
def rX11_factOfLocker : Room := { frames := 5, cells := 0, slots := 0, locals := 153 }
def rX11_parcel : Room := { frames := 8, cells := 2, slots := 12, locals := 151 }
def rX11_factOfParcel : Room := { frames := 0, cells := 0, slots := 0, locals := 0 }
def rX11_put : Room := { frames := 9, cells := 4, slots := 24, locals := 174 }
def rX11_needSpot : Room := { frames := 8, cells := 3, slots := 18, locals := 151 }
def rX11_isLoose : Room := { frames := 0, cells := 0, slots := 0, locals := 0 }
def rX11_addedCost : Room := { frames := 4, cells := 0, slots := 0, locals := 93 }
def rX11_putIn : Room := { frames := 1, cells := 0, slots := 0, locals := 23 }
def rX11_take : Room := { frames := 8, cells := 2, slots := 12, locals := 151 }
def rX11_takeOut : Room := { frames := 1, cells := 0, slots := 0, locals := 23 }
def rX11_route : Room := { frames := 9, cells := 2, slots := 12, locals := 173 }
def rX11_needStop : Room := { frames := 8, cells := 2, slots := 12, locals := 151 }
def rX11_van : Room := { frames := 8, cells := 2, slots := 12, locals := 151 }
def rX11_factOfVan : Room := { frames := 4, cells := 0, slots := 0, locals := 93 }
def rX11_stop : Room := { frames := 9, cells := 3, slots := 18, locals := 173 }
def rX11_adds : Room := { frames := 9, cells := 3, slots := 18, locals := 174 }
def rX11_cheapest : Room := { frames := 8, cells := 1, slots := 6, locals := 151 }
def rX11_weighPuttingIn : Room := { frames := 5, cells := 0, slots := 0, locals := 128 }
def rX11_plan : Room := { frames := 6, cells := 0, slots := 0, locals := 150 }
def rX11_putInAtSpot : Room := { frames := 4, cells := 0, slots := 0, locals := 128 }
def rX11_improve : Room := { frames := 8, cells := 1, slots := 6, locals := 151 }
def rX11_move : Room := { frames := 6, cells := 0, slots := 0, locals := 153 }
def rX11_weighMoving : Room := { frames := 5, cells := 0, slots := 0, locals := 128 }
def rX11_count : Room := { frames := 8, cells := 1, slots := 6, locals := 172 }
def rX11_counted : Room := { frames := 5, cells := 0, slots := 0, locals := 151 }
def rX11_drive : Room := { frames := 8, cells := 0, slots := 0, locals := 221 }
def rX11_driveVans : Room := { frames := 7, cells := 0, slots := 0, locals := 200 }
def rX11_foresee : Room := { frames := 8, cells := 1, slots := 6, locals := 221 }
def rX11_inState : Room := { frames := 4, cells := 0, slots := 0, locals := 128 }
def rX11_keepAll : Room := { frames := 4, cells := 0, slots := 0, locals := 128 }
def rX11_giveBackAll : Room := { frames := 4, cells := 0, slots := 0, locals := 128 }
def rX11_hour : Room := { frames := 8, cells := 1, slots := 6, locals := 151 }
def rX11_digest : Room := { frames := 7, cells := 0, slots := 0, locals := 203 }
def rX11_mixed : Room := { frames := 0, cells := 0, slots := 0, locals := 0 }
def rX11_withHomes : Room := { frames := 6, cells := 0, slots := 0, locals := 176 }
def rX11_withLockers : Room := { frames := 6, cells := 0, slots := 0, locals := 176 }
def rX11_withParcels : Room := { frames := 4, cells := 0, slots := 0, locals := 128 }
def rX11_withVans : Room := { frames := 5, cells := 0, slots := 0, locals := 128 }
def rX11_waitingFor : Room := { frames := 4, cells := 0, slots := 0, locals := 128 }
def rX11_lyingAt : Room := { frames := 4, cells := 0, slots := 0, locals := 128 }
def rX11_looseParcels : Room := { frames := 4, cells := 0, slots := 0, locals := 128 }
def rX11_costOfAll : Room := { frames := 4, cells := 0, slots := 0, locals := 128 }
def rX11_weighPlaces : Room := { frames := 4, cells := 0, slots := 0, locals := 93 }
def rX12_init : Room := { frames := 1, cells := 8, slots := 214, locals := 64 }
def rX12_copy : Room := { frames := 1, cells := 0, slots := 0, locals := 64 }
def rX12_become : Room := { frames := 2, cells := 0, slots := 0, locals := 86 }
def rX12_vanOf : Room := { frames := 0, cells := 0, slots := 0, locals := 0 }
def rX12_boxFor : Room := { frames := 0, cells := 0, slots := 0, locals := 0 }
def rX12_goTo : Room := { frames := 2, cells := 0, slots := 0, locals := 87 }
def rX13_apart : Room := { frames := 1, cells := 0, slots := 0, locals := 64 }
def rX13_minutes : Room := { frames := 0, cells := 0, slots := 0, locals := 0 }
def rX12_work : Room := { frames := 3, cells := 0, slots := 0, locals := 109 }
def rX12_isHome : Room := { frames := 0, cells := 0, slots := 0, locals := 0 }
def rX12_isPlaced : Room := { frames := 3, cells := 0, slots := 0, locals := 109 }
def rX12_isDone : Room := { frames := 4, cells := 0, slots := 0, locals := 134 }
def rX12_open : Room := { frames := 0, cells := 0, slots := 0, locals := 0 }
def rX12_drive : Room := { frames := 5, cells := 0, slots := 0, locals := 157 }
def rX12_how : Room := { frames := 0, cells := 0, slots := 0, locals := 0 }
def rX13_init : Room := { frames := 2, cells := 38, slots := 816, locals := 85 }
def rJ7_fill_53178 : Room := { frames := 0, cells := 0, slots := 0, locals := 0 }
def rX13_thrown : Room := { frames := 0, cells := 0, slots := 0, locals := 0 }
def rX13_no : Room := { frames := 0, cells := 0, slots := 0, locals := 0 }
def rX13_isIn : Room := { frames := 0, cells := 0, slots := 0, locals := 0 }
def rX13_isPlace : Room := { frames := 1, cells := 0, slots := 0, locals := 22 }
def rX13_isHomeNumber : Room := { frames := 1, cells := 0, slots := 0, locals := 22 }
def rX13_isLocker : Room := { frames := 1, cells := 0, slots := 0, locals := 22 }
def rX13_isVan : Room := { frames := 1, cells := 0, slots := 0, locals := 22 }
def rX13_isParcel : Room := { frames := 1, cells := 0, slots := 0, locals := 22 }
def rX13_setRoads : Room := { frames := 1, cells := 0, slots := 0, locals := 22 }
def rX13_setDepot : Room := { frames := 2, cells := 0, slots := 0, locals := 43 }
def rX13_addHome : Room := { frames := 2, cells := 0, slots := 0, locals := 43 }
def rX13_order : Room := { frames := 2, cells := 0, slots := 0, locals := 43 }
def rX13_addLocker : Room := { frames := 2, cells := 1, slots := 3, locals := 64 }
def rX13_addVan : Room := { frames := 1, cells := 0, slots := 0, locals := 22 }
def rX13_addParcel : Room := { frames := 2, cells := 0, slots := 0, locals := 43 }
def rX13_homeTold : Room := { frames := 0, cells := 1, slots := 6, locals := 0 }
def rX13_home : Room := { frames := 2, cells := 1, slots := 6, locals := 43 }
def rX13_lockerTold : Room := { frames := 0, cells := 0, slots := 0, locals := 0 }
def rX13_locker : Room := { frames := 2, cells := 0, slots := 0, locals := 43 }
def rX13_parcelTold : Room := { frames := 1, cells := 1, slots := 9, locals := 23 }
def rX13_parcel : Room := { frames := 2, cells := 1, slots := 9, locals := 46 }
def rX13_look : Room := { frames := 1, cells := 0, slots := 0, locals := 64 }
def rX13_insert : Room := { frames := 1, cells := 0, slots := 0, locals := 64 }
def rX13_remove : Room := { frames := 1, cells := 0, slots := 0, locals := 64 }
def rX13_keep : Room := { frames := 1, cells := 0, slots := 0, locals := 64 }
def rX13_cost : Room := { frames := 2, cells := 0, slots := 0, locals := 87 }
def rX13_routeCost : Room := { frames := 3, cells := 0, slots := 0, locals := 120 }
def rX13_more : Room := { frames := 4, cells := 0, slots := 0, locals := 141 }
def rX13_isFree : Room := { frames := 1, cells := 0, slots := 0, locals := 23 }
def rX13_put : Room := { frames := 5, cells := 0, slots := 0, locals := 166 }
def rX13_take : Room := { frames := 4, cells := 0, slots := 0, locals := 141 }
def rX13_route : Room := { frames := 2, cells := 0, slots := 0, locals := 43 }
def rX13_vanTold : Room := { frames := 4, cells := 1, slots := 10, locals := 141 }
def rX13_van : Room := { frames := 5, cells := 1, slots := 10, locals := 165 }
def rX13_stop : Room := { frames := 4, cells := 0, slots := 0, locals := 141 }
def rX13_adds : Room := { frames := 5, cells := 0, slots := 0, locals := 166 }
def rX13_best : Room := { frames := 5, cells := 0, slots := 0, locals := 166 }
def rX13_cheapest : Room := { frames := 6, cells := 0, slots := 0, locals := 191 }
def rX13_plan : Room := { frames := 6, cells := 0, slots := 0, locals := 191 }
def rX13_turn : Room := { frames := 0, cells := 0, slots := 0, locals := 0 }
def rX13_improve : Room := { frames := 4, cells := 0, slots := 0, locals := 141 }
def rX13_placeOf : Room := { frames := 0, cells := 0, slots := 0, locals := 0 }
def rX13_moved : Room := { frames := 5, cells := 0, slots := 0, locals := 166 }
def rX13_move : Room := { frames := 6, cells := 0, slots := 0, locals := 193 }
def rX13_counted : Room := { frames := 4, cells := 1, slots := 12, locals := 141 }
def rX13_count : Room := { frames := 5, cells := 1, slots := 12, locals := 165 }
def rX13_drive : Room := { frames := 6, cells := 0, slots := 0, locals := 180 }
def rX13_foresee : Room := { frames := 6, cells := 0, slots := 0, locals := 180 }
def rX13_hour : Room := { frames := 2, cells := 0, slots := 0, locals := 43 }
def rX13_digest : Room := { frames := 5, cells := 450, slots := 4000, locals := 165 }
