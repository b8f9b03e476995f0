def RX0 : String := "LastMile$Choice"
def TX0 : u_T := fun k => match k with
  | 0 => ("LastMile$Choice", "change", "I", false)
  | 1 => ("LastMile$Choice", "spot", "I", false)
  | _ => ("LastMile$Choice", "parcel", "LLastMile$Parcel;", false)
def tyX0 : Nat → FieldType := fun k => match k with
  | 0 => .int
  | 1 => .int
  | _ => .object "LastMile$Parcel"
theorem nmX0 : ∀ a, a < 3 → ∀ b, b < 3 → a ≠ b → (TX0 a).2.1 ≠ (TX0 b).2.1 := by decide +kernel
theorem tyX0_ok : ∀ k, k < 3 → parseFieldDescriptor (TX0 k).2.2.1 = some (tyX0 k) := by decide +kernel
abbrev cX0_init : ByteArray := prog_2_method_1_code
def yX0_init : MethodName := ⟨RX0, "<init>", "()V"⟩
abbrev cX0_forget : ByteArray := prog_2_method_2_code
def yX0_forget : MethodName := ⟨RX0, "forget", "()V"⟩
abbrev cX0_weigh : ByteArray := prog_2_method_3_code
def yX0_weigh : MethodName := ⟨RX0, "weigh", "(ILLastMile$Parcel;I)V"⟩
def RX1 : String := "LastMile$Home"
def TX1 : u_T := fun k => match k with
  | 0 => ("LastMile$Home", "place", "LLastMile$Place;", true)
  | 1 => ("LastMile$Home", "hours", "I", true)
  | 2 => ("LastMile$Home", "orders", "[I", true)
  | _ => ("LastMile$Home", "orderCount", "I", false)
def tyX1 : Nat → FieldType := fun k => match k with
  | 0 => .object "LastMile$Place"
  | 1 => .int
  | 2 => .array .int
  | _ => .int
theorem nmX1 : ∀ a, a < 4 → ∀ b, b < 4 → a ≠ b → (TX1 a).2.1 ≠ (TX1 b).2.1 := by decide +kernel
theorem tyX1_ok : ∀ k, k < 4 → parseFieldDescriptor (TX1 k).2.2.1 = some (tyX1 k) := by decide +kernel
abbrev cX1_init : ByteArray := prog_3_method_1_code
def yX1_init : MethodName := ⟨RX1, "<init>", "(LLastMile$Place;I)V"⟩
abbrev cX1_isSomebodyIn : ByteArray := prog_3_method_2_code
def yX1_isSomebodyIn : MethodName := ⟨RX1, "isSomebodyIn", "(I)Z"⟩
abbrev cX1_hoursFrom : ByteArray := prog_3_method_3_code
def yX1_hoursFrom : MethodName := ⟨RX1, "hoursFrom", "(I)I"⟩
def RX2 : String := "LastMile$Locker"
def TX2 : u_T := fun k => match k with
  | 0 => ("LastMile$Locker", "place", "LLastMile$Place;", true)
  | 1 => ("LastMile$Locker", "free", "[I", true)
  | _ => ("LastMile$Locker", "kept", "[I", true)
def tyX2 : Nat → FieldType := fun k => match k with
  | 0 => .object "LastMile$Place"
  | 1 => .array .int
  | _ => .array .int
theorem nmX2 : ∀ a, a < 3 → ∀ b, b < 3 → a ≠ b → (TX2 a).2.1 ≠ (TX2 b).2.1 := by decide +kernel
theorem tyX2_ok : ∀ k, k < 3 → parseFieldDescriptor (TX2 k).2.2.1 = some (tyX2 k) := by decide +kernel
abbrev cX2_init : ByteArray := prog_4_method_1_code
def yX2_init : MethodName := ⟨RX2, "<init>", "(LLastMile$Place;III)V"⟩
abbrev cX2_boxFor : ByteArray := prog_4_method_2_code
def yX2_boxFor : MethodName := ⟨RX2, "boxFor", "(I)I"⟩
abbrev cX2_keep : ByteArray := prog_4_method_3_code
def yX2_keep : MethodName := ⟨RX2, "keep", "()V"⟩
abbrev cX2_giveBack : ByteArray := prog_4_method_4_code
def yX2_giveBack : MethodName := ⟨RX2, "giveBack", "()V"⟩
def RX3 : String := "LastMile$Parcel"
def TX3 : u_T := fun k => match k with
  | 0 => ("LastMile$Parcel", "number", "I", true)
  | 1 => ("LastMile$Parcel", "kind", "I", true)
  | 2 => ("LastMile$Parcel", "volume", "I", true)
  | 3 => ("LastMile$Parcel", "homeNumber", "I", true)
  | 4 => ("LastMile$Parcel", "home", "LLastMile$Home;", true)
  | 5 => ("LastMile$Parcel", "from", "I", true)
  | 6 => ("LastMile$Parcel", "till", "I", true)
  | 7 => ("LastMile$Parcel", "van", "LLastMile$Van;", false)
  | 8 => ("LastMile$Parcel", "attempts", "I", false)
  | 9 => ("LastMile$Parcel", "state", "I", false)
  | 10 => ("LastMile$Parcel", "where", "I", false)
  | 11 => ("LastMile$Parcel", "box", "I", false)
  | 12 => ("LastMile$Parcel", "nights", "I", false)
  | _ => ("LastMile$Parcel", "kept", "[I", true)
def tyX3 : Nat → FieldType := fun k => match k with
  | 0 => .int
  | 1 => .int
  | 2 => .int
  | 3 => .int
  | 4 => .object "LastMile$Home"
  | 5 => .int
  | 6 => .int
  | 7 => .object "LastMile$Van"
  | 8 => .int
  | 9 => .int
  | 10 => .int
  | 11 => .int
  | 12 => .int
  | _ => .array .int
theorem nmX3 : ∀ a, a < 14 → ∀ b, b < 14 → a ≠ b → (TX3 a).2.1 ≠ (TX3 b).2.1 := by decide +kernel
theorem tyX3_ok : ∀ k, k < 14 → parseFieldDescriptor (TX3 k).2.2.1 = some (tyX3 k) := by decide +kernel
abbrev cX3_init : ByteArray := prog_5_method_1_code
def yX3_init : MethodName := ⟨RX3, "<init>", "(IIIILLastMile$Home;II)V"⟩
abbrev cX3_keep : ByteArray := prog_5_method_2_code
def yX3_keep : MethodName := ⟨RX3, "keep", "()V"⟩
abbrev cX3_giveBack : ByteArray := prog_5_method_3_code
def yX3_giveBack : MethodName := ⟨RX3, "giveBack", "()V"⟩
def RX4 : String := "LastMile$Place"
def TX4 : u_T := fun k => match k with
  | 0 => ("LastMile$Place", "x", "I", true)
  | _ => ("LastMile$Place", "y", "I", true)
def tyX4 : Nat → FieldType := fun k => match k with
  | 0 => .int
  | _ => .int
theorem nmX4 : ∀ a, a < 2 → ∀ b, b < 2 → a ≠ b → (TX4 a).2.1 ≠ (TX4 b).2.1 := by decide +kernel
theorem tyX4_ok : ∀ k, k < 2 → parseFieldDescriptor (TX4 k).2.2.1 = some (tyX4 k) := by decide +kernel
abbrev cX4_init : ByteArray := prog_6_method_1_code
def yX4_init : MethodName := ⟨RX4, "<init>", "(II)V"⟩
abbrev cX4_distanceTo : ByteArray := prog_6_method_2_code
def yX4_distanceTo : MethodName := ⟨RX4, "distanceTo", "(LLastMile$Place;)I"⟩
def RX5 : String := "LastMile$Round"
def TX5 : u_T := fun k => match k with
  | 0 => ("LastMile$Round", "town", "LLastMile$Town;", true)
  | 1 => ("LastMile$Round", "homes", "Ljava/util/ArrayList;", true)
  | 2 => ("LastMile$Round", "lockers", "Ljava/util/ArrayList;", true)
  | 3 => ("LastMile$Round", "trip", "LLastMile$Trip;", true)
  | 4 => ("LastMile$Round", "done", "I", false)
  | _ => ("LastMile$Round", "latest", "I", false)
def tyX5 : Nat → FieldType := fun k => match k with
  | 0 => .object "LastMile$Town"
  | 1 => .object "java/util/ArrayList"
  | 2 => .object "java/util/ArrayList"
  | 3 => .object "LastMile$Trip"
  | 4 => .int
  | _ => .int
theorem nmX5 : ∀ a, a < 6 → ∀ b, b < 6 → a ≠ b → (TX5 a).2.1 ≠ (TX5 b).2.1 := by decide +kernel
theorem tyX5_ok : ∀ k, k < 6 → parseFieldDescriptor (TX5 k).2.2.1 = some (tyX5 k) := by decide +kernel
abbrev cX5_init : ByteArray := prog_7_method_1_code
def yX5_init : MethodName := ⟨RX5, "<init>", "(LLastMile$Town;Ljava/util/ArrayList;Ljava/util/ArrayList;)V"⟩
abbrev cX5_begin : ByteArray := prog_7_method_2_code
def yX5_begin : MethodName := ⟨RX5, "begin", "()V"⟩
abbrev cX5_driveVan : ByteArray := prog_7_method_3_code
def yX5_driveVan : MethodName := ⟨RX5, "driveVan", "(LLastMile$Van;)V"⟩
abbrev cX5_visit : ByteArray := prog_7_method_4_code
def yX5_visit : MethodName := ⟨RX5, "visit", "(LLastMile$Parcel;)V"⟩
abbrev cX5_settle : ByteArray := prog_7_method_5_code
def yX5_settle : MethodName := ⟨RX5, "settle", "(LLastMile$Parcel;)V"⟩
abbrev cX5_tryOrders : ByteArray := prog_7_method_6_code
def yX5_tryOrders : MethodName := ⟨RX5, "tryOrders", "(LLastMile$Parcel;)V"⟩
abbrev cX5_tryLocker : ByteArray := prog_7_method_7_code
def yX5_tryLocker : MethodName := ⟨RX5, "tryLocker", "(LLastMile$Parcel;I)V"⟩
abbrev cX5_tryNeighbour : ByteArray := prog_7_method_8_code
def yX5_tryNeighbour : MethodName := ⟨RX5, "tryNeighbour", "(LLastMile$Parcel;I)V"⟩
abbrev cX5_endDay : ByteArray := prog_7_method_9_code
def yX5_endDay : MethodName := ⟨RX5, "endDay", "(LLastMile$Parcel;)V"⟩
abbrev cX5_emptyBox : ByteArray := prog_7_method_10_code
def yX5_emptyBox : MethodName := ⟨RX5, "emptyBox", "(LLastMile$Parcel;LLastMile$Locker;I)V"⟩
def RX6 : String := "LastMile$Route"
def TX6 : u_T := fun k => match k with
  | 0 => ("LastMile$Route", "row", "[LLastMile$Parcel;", true)
  | _ => ("LastMile$Route", "size", "I", false)
def tyX6 : Nat → FieldType := fun k => match k with
  | 0 => .array (.object "LastMile$Parcel")
  | _ => .int
theorem nmX6 : ∀ a, a < 2 → ∀ b, b < 2 → a ≠ b → (TX6 a).2.1 ≠ (TX6 b).2.1 := by decide +kernel
theorem tyX6_ok : ∀ k, k < 2 → parseFieldDescriptor (TX6 k).2.2.1 = some (tyX6 k) := by decide +kernel
abbrev cX6_init : ByteArray := prog_8_method_1_code
def yX6_init : MethodName := ⟨RX6, "<init>", "()V"⟩
abbrev cX6_at : ByteArray := prog_8_method_2_code
def yX6_at : MethodName := ⟨RX6, "at", "(I)LLastMile$Parcel;"⟩
abbrev cX6_copy : ByteArray := prog_8_method_3_code
def yX6_copy : MethodName := ⟨RX6, "copy", "(LLastMile$Route;)V"⟩
abbrev cX6_insert : ByteArray := prog_8_method_4_code
def yX6_insert : MethodName := ⟨RX6, "insert", "(LLastMile$Parcel;I)V"⟩
abbrev cX6_remove : ByteArray := prog_8_method_5_code
def yX6_remove : MethodName := ⟨RX6, "remove", "(LLastMile$Parcel;)V"⟩
abbrev cX6_turn : ByteArray := prog_8_method_6_code
def yX6_turn : MethodName := ⟨RX6, "turn", "(II)V"⟩
abbrev cX6_fits : ByteArray := prog_8_method_7_code
def yX6_fits : MethodName := ⟨RX6, "fits", "(I)Z"⟩
abbrev cX6_loadAtDepot : ByteArray := prog_8_method_8_code
def yX6_loadAtDepot : MethodName := ⟨RX6, "loadAtDepot", "()I"⟩
abbrev cX6_greatestLoad : ByteArray := prog_8_method_9_code
def yX6_greatestLoad : MethodName := ⟨RX6, "greatestLoad", "()I"⟩
def RX7 : String := "LastMile$Schedule"
def TX7 : u_T := fun k => match k with
  | 0 => ("LastMile$Schedule", "town", "LLastMile$Town;", true)
  | 1 => ("LastMile$Schedule", "trip", "LLastMile$Trip;", true)
  | 2 => ("LastMile$Schedule", "minutes", "[I", true)
  | 3 => ("LastMile$Schedule", "lates", "[I", true)
  | 4 => ("LastMile$Schedule", "loads", "[I", true)
  | _ => ("LastMile$Schedule", "lateness", "I", false)
def tyX7 : Nat → FieldType := fun k => match k with
  | 0 => .object "LastMile$Town"
  | 1 => .object "LastMile$Trip"
  | 2 => .array .int
  | 3 => .array .int
  | 4 => .array .int
  | _ => .int
theorem nmX7 : ∀ a, a < 6 → ∀ b, b < 6 → a ≠ b → (TX7 a).2.1 ≠ (TX7 b).2.1 := by decide +kernel
theorem tyX7_ok : ∀ k, k < 6 → parseFieldDescriptor (TX7 k).2.2.1 = some (tyX7 k) := by decide +kernel
abbrev cX7_init : ByteArray := prog_9_method_1_code
def yX7_init : MethodName := ⟨RX7, "<init>", "(LLastMile$Town;)V"⟩
abbrev cX7_follow : ByteArray := prog_9_method_2_code
def yX7_follow : MethodName := ⟨RX7, "follow", "(LLastMile$Van;LLastMile$Route;)I"⟩
def RX8 : String := "LastMile$Town"
def TX8 : u_T := fun k => match k with
  | 0 => ("LastMile$Town", "slow", "[I", true)
  | _ => ("LastMile$Town", "depot", "LLastMile$Place;", false)
def tyX8 : Nat → FieldType := fun k => match k with
  | 0 => .array .int
  | _ => .object "LastMile$Place"
theorem nmX8 : ∀ a, a < 2 → ∀ b, b < 2 → a ≠ b → (TX8 a).2.1 ≠ (TX8 b).2.1 := by decide +kernel
theorem tyX8_ok : ∀ k, k < 2 → parseFieldDescriptor (TX8 k).2.2.1 = some (tyX8 k) := by decide +kernel
abbrev cX8_init : ByteArray := prog_10_method_1_code
def yX8_init : MethodName := ⟨RX8, "<init>", "()V"⟩
abbrev cX8_minutesOf : ByteArray := prog_10_method_2_code
def yX8_minutesOf : MethodName := ⟨RX8, "minutesOf", "(LLastMile$Place;LLastMile$Place;I)I"⟩
abbrev cX8_hourOf : ByteArray := prog_10_method_3_code
def yX8_hourOf : MethodName := ⟨RX8, "hourOf", "(I)I"⟩
def RX9 : String := "LastMile$Trip"
def TX9 : u_T := fun k => match k with
  | 0 => ("LastMile$Trip", "town", "LLastMile$Town;", true)
  | 1 => ("LastMile$Trip", "place", "LLastMile$Place;", false)
  | 2 => ("LastMile$Trip", "workSince", "I", false)
  | 3 => ("LastMile$Trip", "minute", "I", false)
  | 4 => ("LastMile$Trip", "going", "I", false)
  | _ => ("LastMile$Trip", "breaks", "I", false)
def tyX9 : Nat → FieldType := fun k => match k with
  | 0 => .object "LastMile$Town"
  | 1 => .object "LastMile$Place"
  | 2 => .int
  | 3 => .int
  | 4 => .int
  | _ => .int
theorem nmX9 : ∀ a, a < 6 → ∀ b, b < 6 → a ≠ b → (TX9 a).2.1 ≠ (TX9 b).2.1 := by decide +kernel
theorem tyX9_ok : ∀ k, k < 6 → parseFieldDescriptor (TX9 k).2.2.1 = some (tyX9 k) := by decide +kernel
abbrev cX9_init : ByteArray := prog_11_method_1_code
def yX9_init : MethodName := ⟨RX9, "<init>", "(LLastMile$Town;)V"⟩
abbrev cX9_begin : ByteArray := prog_11_method_2_code
def yX9_begin : MethodName := ⟨RX9, "begin", "(I)V"⟩
abbrev cX9_goWithBreak : ByteArray := prog_11_method_3_code
def yX9_goWithBreak : MethodName := ⟨RX9, "goWithBreak", "(LLastMile$Place;)V"⟩
abbrev cX9_goStraight : ByteArray := prog_11_method_4_code
def yX9_goStraight : MethodName := ⟨RX9, "goStraight", "(LLastMile$Place;)V"⟩
abbrev cX9_arrive : ByteArray := prog_11_method_5_code
def yX9_arrive : MethodName := ⟨RX9, "arrive", "(LLastMile$Place;I)V"⟩
abbrev cX9_waitTill : ByteArray := prog_11_method_6_code
def yX9_waitTill : MethodName := ⟨RX9, "waitTill", "(I)V"⟩
abbrev cX9_stay : ByteArray := prog_11_method_7_code
def yX9_stay : MethodName := ⟨RX9, "stay", "(I)V"⟩
def RX10 : String := "LastMile$Van"
def TX10 : u_T := fun k => match k with
  | 0 => ("LastMile$Van", "number", "I", true)
  | 1 => ("LastMile$Van", "room", "I", true)
  | 2 => ("LastMile$Van", "start", "I", true)
  | 3 => ("LastMile$Van", "end", "I", true)
  | _ => ("LastMile$Van", "row", "LLastMile$Route;", true)
def tyX10 : Nat → FieldType := fun k => match k with
  | 0 => .int
  | 1 => .int
  | 2 => .int
  | 3 => .int
  | _ => .object "LastMile$Route"
theorem nmX10 : ∀ a, a < 5 → ∀ b, b < 5 → a ≠ b → (TX10 a).2.1 ≠ (TX10 b).2.1 := by decide +kernel
theorem tyX10_ok : ∀ k, k < 5 → parseFieldDescriptor (TX10 k).2.2.1 = some (tyX10 k) := by decide +kernel
abbrev cX10_init : ByteArray := prog_12_method_1_code
def yX10_init : MethodName := ⟨RX10, "<init>", "(IIII)V"⟩
def RX11 : String := "LastMile"
def TX11 : u_T := fun k => match k with
  | 0 => ("LastMile", "town", "LLastMile$Town;", true)
  | 1 => ("LastMile", "homes", "Ljava/util/ArrayList;", true)
  | 2 => ("LastMile", "lockers", "Ljava/util/ArrayList;", true)
  | 3 => ("LastMile", "vans", "Ljava/util/ArrayList;", true)
  | 4 => ("LastMile", "parcels", "Ljava/util/ArrayList;", true)
  | 5 => ("LastMile", "schedule", "LLastMile$Schedule;", true)
  | 6 => ("LastMile", "round", "LLastMile$Round;", true)
  | 7 => ("LastMile", "choice", "LLastMile$Choice;", true)
  | 8 => ("LastMile", "trial", "LLastMile$Route;", true)
  | 9 => ("LastMile", "rest", "LLastMile$Route;", true)
  | _ => ("LastMile", "day", "I", false)
def tyX11 : Nat → FieldType := fun k => match k with
  | 0 => .object "LastMile$Town"
  | 1 => .object "java/util/ArrayList"
  | 2 => .object "java/util/ArrayList"
  | 3 => .object "java/util/ArrayList"
  | 4 => .object "java/util/ArrayList"
  | 5 => .object "LastMile$Schedule"
  | 6 => .object "LastMile$Round"
  | 7 => .object "LastMile$Choice"
  | 8 => .object "LastMile$Route"
  | 9 => .object "LastMile$Route"
  | _ => .int
theorem nmX11 : ∀ a, a < 11 → ∀ b, b < 11 → a ≠ b → (TX11 a).2.1 ≠ (TX11 b).2.1 := by decide +kernel
theorem tyX11_ok : ∀ k, k < 11 → parseFieldDescriptor (TX11 k).2.2.1 = some (tyX11 k) := by decide +kernel
abbrev cX11_init : ByteArray := prog_1_method_1_code
def yX11_init : MethodName := ⟨RX11, "<init>", "()V"⟩
abbrev cX11_setRoads : ByteArray := prog_1_method_2_code
def yX11_setRoads : MethodName := ⟨RX11, "setRoads", "(II)I"⟩
abbrev cX11_setDepot : ByteArray := prog_1_method_3_code
def yX11_setDepot : MethodName := ⟨RX11, "setDepot", "(II)I"⟩
abbrev cX11_addHome : ByteArray := prog_1_method_4_code
def yX11_addHome : MethodName := ⟨RX11, "addHome", "(III)I"⟩
abbrev cX11_order : ByteArray := prog_1_method_5_code
def yX11_order : MethodName := ⟨RX11, "order", "(IZI)I"⟩
abbrev cX11_addLocker : ByteArray := prog_1_method_6_code
def yX11_addLocker : MethodName := ⟨RX11, "addLocker", "(IIIII)I"⟩
abbrev cX11_addVan : ByteArray := prog_1_method_7_code
def yX11_addVan : MethodName := ⟨RX11, "addVan", "(III)I"⟩
abbrev cX11_addParcel : ByteArray := prog_1_method_8_code
def yX11_addParcel : MethodName := ⟨RX11, "addParcel", "(IIIII)I"⟩
abbrev cX11_home : ByteArray := prog_1_method_9_code
def yX11_home : MethodName := ⟨RX11, "home", "(II)I"⟩
abbrev cX11_locker : ByteArray := prog_1_method_10_code
def yX11_locker : MethodName := ⟨RX11, "locker", "(II)I"⟩
abbrev cX11_parcel : ByteArray := prog_1_method_11_code
def yX11_parcel : MethodName := ⟨RX11, "parcel", "(II)I"⟩
abbrev cX11_put : ByteArray := prog_1_method_12_code
def yX11_put : MethodName := ⟨RX11, "put", "(III)I"⟩
abbrev cX11_take : ByteArray := prog_1_method_13_code
def yX11_take : MethodName := ⟨RX11, "take", "(I)I"⟩
abbrev cX11_route : ByteArray := prog_1_method_14_code
def yX11_route : MethodName := ⟨RX11, "route", "(II)I"⟩
abbrev cX11_van : ByteArray := prog_1_method_15_code
def yX11_van : MethodName := ⟨RX11, "van", "(II)I"⟩
abbrev cX11_stop : ByteArray := prog_1_method_16_code
def yX11_stop : MethodName := ⟨RX11, "stop", "(III)I"⟩
abbrev cX11_adds : ByteArray := prog_1_method_17_code
def yX11_adds : MethodName := ⟨RX11, "adds", "(III)I"⟩
abbrev cX11_cheapest : ByteArray := prog_1_method_18_code
def yX11_cheapest : MethodName := ⟨RX11, "cheapest", "(I)I"⟩
abbrev cX11_plan : ByteArray := prog_1_method_19_code
def yX11_plan : MethodName := ⟨RX11, "plan", "()I"⟩
abbrev cX11_improve : ByteArray := prog_1_method_20_code
def yX11_improve : MethodName := ⟨RX11, "improve", "(I)I"⟩
abbrev cX11_move : ByteArray := prog_1_method_21_code
def yX11_move : MethodName := ⟨RX11, "move", "()I"⟩
abbrev cX11_count : ByteArray := prog_1_method_22_code
def yX11_count : MethodName := ⟨RX11, "count", "(I)I"⟩
abbrev cX11_drive : ByteArray := prog_1_method_23_code
def yX11_drive : MethodName := ⟨RX11, "drive", "()I"⟩
abbrev cX11_foresee : ByteArray := prog_1_method_24_code
def yX11_foresee : MethodName := ⟨RX11, "foresee", "(I)I"⟩
abbrev cX11_hour : ByteArray := prog_1_method_25_code
def yX11_hour : MethodName := ⟨RX11, "hour", "(I)I"⟩
abbrev cX11_mean : ByteArray := prog_1_method_26_code
def yX11_mean : MethodName := ⟨RX11, "mean", "()D"⟩
abbrev cX11_digest : ByteArray := prog_1_method_27_code
def yX11_digest : MethodName := ⟨RX11, "digest", "()J"⟩
abbrev cX11_needIndex : ByteArray := prog_1_method_28_code
def yX11_needIndex : MethodName := ⟨RX11, "needIndex", "(II)V"⟩
abbrev cX11_needRange : ByteArray := prog_1_method_29_code
def yX11_needRange : MethodName := ⟨RX11, "needRange", "(III)V"⟩
abbrev cX11_needPlace : ByteArray := prog_1_method_30_code
def yX11_needPlace : MethodName := ⟨RX11, "needPlace", "(II)V"⟩
abbrev cX11_needSpace : ByteArray := prog_1_method_31_code
def yX11_needSpace : MethodName := ⟨RX11, "needSpace", "(II)V"⟩
abbrev cX11_needStop : ByteArray := prog_1_method_32_code
def yX11_needStop : MethodName := ⟨RX11, "needStop", "(II)V"⟩
abbrev cX11_needSpot : ByteArray := prog_1_method_33_code
def yX11_needSpot : MethodName := ⟨RX11, "needSpot", "(III)V"⟩
abbrev cX11_factOfHome : ByteArray := prog_1_method_34_code
def yX11_factOfHome : MethodName := ⟨RX11, "factOfHome", "(II)I"⟩
abbrev cX11_factOfLocker : ByteArray := prog_1_method_35_code
def yX11_factOfLocker : MethodName := ⟨RX11, "factOfLocker", "(II)I"⟩
abbrev cX11_factOfParcel : ByteArray := prog_1_method_36_code
def yX11_factOfParcel : MethodName := ⟨RX11, "factOfParcel", "(LLastMile$Parcel;I)I"⟩
abbrev cX11_factOfVan : ByteArray := prog_1_method_37_code
def yX11_factOfVan : MethodName := ⟨RX11, "factOfVan", "(LLastMile$Van;I)I"⟩
abbrev cX11_counted : ByteArray := prog_1_method_38_code
def yX11_counted : MethodName := ⟨RX11, "counted", "(I)I"⟩
abbrev cX11_inState : ByteArray := prog_1_method_39_code
def yX11_inState : MethodName := ⟨RX11, "inState", "(I)I"⟩
abbrev cX11_lyingAt : ByteArray := prog_1_method_40_code
def yX11_lyingAt : MethodName := ⟨RX11, "lyingAt", "(II)I"⟩
abbrev cX11_waitingFor : ByteArray := prog_1_method_41_code
def yX11_waitingFor : MethodName := ⟨RX11, "waitingFor", "(I)I"⟩
abbrev cX11_looseParcels : ByteArray := prog_1_method_42_code
def yX11_looseParcels : MethodName := ⟨RX11, "looseParcels", "()I"⟩
abbrev cX11_costOfAll : ByteArray := prog_1_method_43_code
def yX11_costOfAll : MethodName := ⟨RX11, "costOfAll", "()I"⟩
abbrev cX11_isLoose : ByteArray := prog_1_method_44_code
def yX11_isLoose : MethodName := ⟨RX11, "isLoose", "(LLastMile$Parcel;)Z"⟩
abbrev cX11_putIn : ByteArray := prog_1_method_45_code
def yX11_putIn : MethodName := ⟨RX11, "putIn", "(LLastMile$Parcel;LLastMile$Van;I)V"⟩
abbrev cX11_putInAtSpot : ByteArray := prog_1_method_46_code
def yX11_putInAtSpot : MethodName := ⟨RX11, "putInAtSpot", "(LLastMile$Parcel;I)V"⟩
abbrev cX11_takeOut : ByteArray := prog_1_method_47_code
def yX11_takeOut : MethodName := ⟨RX11, "takeOut", "(LLastMile$Parcel;)V"⟩
abbrev cX11_addedCost : ByteArray := prog_1_method_48_code
def yX11_addedCost : MethodName := ⟨RX11, "addedCost", "(LLastMile$Parcel;LLastMile$Van;I)I"⟩
abbrev cX11_weighPuttingIn : ByteArray := prog_1_method_49_code
def yX11_weighPuttingIn : MethodName := ⟨RX11, "weighPuttingIn", "(LLastMile$Parcel;)V"⟩
abbrev cX11_weighMoving : ByteArray := prog_1_method_50_code
def yX11_weighMoving : MethodName := ⟨RX11, "weighMoving", "(LLastMile$Parcel;)V"⟩
abbrev cX11_weighPlaces : ByteArray := prog_1_method_51_code
def yX11_weighPlaces : MethodName := ⟨RX11, "weighPlaces", "(LLastMile$Parcel;LLastMile$Van;LLastMile$Route;I)V"⟩
abbrev cX11_driveVans : ByteArray := prog_1_method_52_code
def yX11_driveVans : MethodName := ⟨RX11, "driveVans", "()V"⟩
abbrev cX11_keepAll : ByteArray := prog_1_method_53_code
def yX11_keepAll : MethodName := ⟨RX11, "keepAll", "()V"⟩
abbrev cX11_giveBackAll : ByteArray := prog_1_method_54_code
def yX11_giveBackAll : MethodName := ⟨RX11, "giveBackAll", "()V"⟩
abbrev cX11_mixed : ByteArray := prog_1_method_55_code
def yX11_mixed : MethodName := ⟨RX11, "mixed", "(JJ)J"⟩
abbrev cX11_withHomes : ByteArray := prog_1_method_56_code
def yX11_withHomes : MethodName := ⟨RX11, "withHomes", "(J)J"⟩
abbrev cX11_withLockers : ByteArray := prog_1_method_57_code
def yX11_withLockers : MethodName := ⟨RX11, "withLockers", "(J)J"⟩
abbrev cX11_withParcels : ByteArray := prog_1_method_58_code
def yX11_withParcels : MethodName := ⟨RX11, "withParcels", "(J)J"⟩
abbrev cX11_withVans : ByteArray := prog_1_method_59_code
def yX11_withVans : MethodName := ⟨RX11, "withVans", "(J)J"⟩
def RX12 : String := "LastMileModel$State"
def TX12 : u_T := fun k => match k with
  | 0 => ("LastMileModel$State", "day", "I", false)
  | 1 => ("LastMileModel$State", "latest", "I", false)
  | 2 => ("LastMileModel$State", "how", "[I", true)
  | 3 => ("LastMileModel$State", "attempts", "[I", true)
  | 4 => ("LastMileModel$State", "where", "[I", true)
  | 5 => ("LastMileModel$State", "box", "[I", true)
  | 6 => ("LastMileModel$State", "lain", "[I", true)
  | 7 => ("LastMileModel$State", "free", "[I", true)
  | 8 => ("LastMileModel$State", "many", "[I", true)
  | 9 => ("LastMileModel$State", "route", "[I", true)
  | 10 => ("LastMileModel$State", "now", "I", false)
  | 11 => ("LastMileModel$State", "base", "I", false)
  | 12 => ("LastMileModel$State", "x", "I", false)
  | 13 => ("LastMileModel$State", "y", "I", false)
  | _ => ("LastMileModel$State", "this$0", "LLastMileModel;", true)
def tyX12 : Nat → FieldType := fun k => match k with
  | 0 => .int
  | 1 => .int
  | 2 => .array .int
  | 3 => .array .int
  | 4 => .array .int
  | 5 => .array .int
  | 6 => .array .int
  | 7 => .array .int
  | 8 => .array .int
  | 9 => .array .int
  | 10 => .int
  | 11 => .int
  | 12 => .int
  | 13 => .int
  | _ => .object "LastMileModel"
theorem nmX12 : ∀ a, a < 15 → ∀ b, b < 15 → a ≠ b → (TX12 a).2.1 ≠ (TX12 b).2.1 := by decide +kernel
theorem tyX12_ok : ∀ k, k < 15 → parseFieldDescriptor (TX12 k).2.2.1 = some (tyX12 k) := by decide +kernel
abbrev cX12_init : ByteArray := prog_15_method_1_code
def yX12_init : MethodName := ⟨RX12, "<init>", "(LLastMileModel;)V"⟩
abbrev cX12_copy : ByteArray := prog_15_method_2_code
def yX12_copy : MethodName := ⟨RX12, "copy", "([I[I)V"⟩
abbrev cX12_become : ByteArray := prog_15_method_3_code
def yX12_become : MethodName := ⟨RX12, "become", "(LLastMileModel$State;)V"⟩
abbrev cX12_vanOf : ByteArray := prog_15_method_4_code
def yX12_vanOf : MethodName := ⟨RX12, "vanOf", "(I)I"⟩
abbrev cX12_boxFor : ByteArray := prog_15_method_5_code
def yX12_boxFor : MethodName := ⟨RX12, "boxFor", "(II)I"⟩
abbrev cX12_goTo : ByteArray := prog_15_method_6_code
def yX12_goTo : MethodName := ⟨RX12, "goTo", "(II)V"⟩
abbrev cX12_work : ByteArray := prog_15_method_7_code
def yX12_work : MethodName := ⟨RX12, "work", "(II)V"⟩
abbrev cX12_isHome : ByteArray := prog_15_method_8_code
def yX12_isHome : MethodName := ⟨RX12, "isHome", "(I)Z"⟩
abbrev cX12_isPlaced : ByteArray := prog_15_method_9_code
def yX12_isPlaced : MethodName := ⟨RX12, "isPlaced", "(I)Z"⟩
abbrev cX12_isDone : ByteArray := prog_15_method_10_code
def yX12_isDone : MethodName := ⟨RX12, "isDone", "(I)Z"⟩
abbrev cX12_open : ByteArray := prog_15_method_11_code
def yX12_open : MethodName := ⟨RX12, "open", "(II)V"⟩
abbrev cX12_drive : ByteArray := prog_15_method_12_code
def yX12_drive : MethodName := ⟨RX12, "drive", "()I"⟩
abbrev cX12_how : ByteArray := prog_15_method_13_code
def yX12_how : MethodName := ⟨RX12, "how", "(I)I"⟩
def RX13 : String := "LastMileModel"
def TX13 : u_T := fun k => match k with
  | 0 => ("LastMileModel", "thrown", "I", false)
  | 1 => ("LastMileModel", "slow", "[I", true)
  | 2 => ("LastMileModel", "depotX", "I", false)
  | 3 => ("LastMileModel", "depotY", "I", false)
  | 4 => ("LastMileModel", "homes", "I", false)
  | 5 => ("LastMileModel", "homeX", "[I", true)
  | 6 => ("LastMileModel", "homeY", "[I", true)
  | 7 => ("LastMileModel", "hours", "[I", true)
  | 8 => ("LastMileModel", "orders", "[I", true)
  | 9 => ("LastMileModel", "order", "[I", true)
  | 10 => ("LastMileModel", "lockers", "I", false)
  | 11 => ("LastMileModel", "lockerX", "[I", true)
  | 12 => ("LastMileModel", "lockerY", "[I", true)
  | 13 => ("LastMileModel", "vans", "I", false)
  | 14 => ("LastMileModel", "room", "[I", true)
  | 15 => ("LastMileModel", "start", "[I", true)
  | 16 => ("LastMileModel", "end", "[I", true)
  | 17 => ("LastMileModel", "parcels", "I", false)
  | 18 => ("LastMileModel", "kind", "[I", true)
  | 19 => ("LastMileModel", "volume", "[I", true)
  | 20 => ("LastMileModel", "homeOf", "[I", true)
  | 21 => ("LastMileModel", "from", "[I", true)
  | 22 => ("LastMileModel", "till", "[I", true)
  | 23 => ("LastMileModel", "s", "LLastMileModel$State;", true)
  | 24 => ("LastMileModel", "ahead", "LLastMileModel$State;", true)
  | 25 => ("LastMileModel", "line", "[I", true)
  | 26 => ("LastMileModel", "length", "I", false)
  | 27 => ("LastMileModel", "minute", "[I", true)
  | 28 => ("LastMileModel", "late", "[I", true)
  | 29 => ("LastMileModel", "load", "[I", true)
  | 30 => ("LastMileModel", "going", "I", false)
  | 31 => ("LastMileModel", "lateness", "I", false)
  | 32 => ("LastMileModel", "back", "I", false)
  | 33 => ("LastMileModel", "breaks", "I", false)
  | 34 => ("LastMileModel", "fullest", "I", false)
  | _ => ("LastMileModel", "leastMore", "I", false)
def tyX13 : Nat → FieldType := fun k => match k with
  | 0 => .int
  | 1 => .array .int
  | 2 => .int
  | 3 => .int
  | 4 => .int
  | 5 => .array .int
  | 6 => .array .int
  | 7 => .array .int
  | 8 => .array .int
  | 9 => .array .int
  | 10 => .int
  | 11 => .array .int
  | 12 => .array .int
  | 13 => .int
  | 14 => .array .int
  | 15 => .array .int
  | 16 => .array .int
  | 17 => .int
  | 18 => .array .int
  | 19 => .array .int
  | 20 => .array .int
  | 21 => .array .int
  | 22 => .array .int
  | 23 => .object "LastMileModel$State"
  | 24 => .object "LastMileModel$State"
  | 25 => .array .int
  | 26 => .int
  | 27 => .array .int
  | 28 => .array .int
  | 29 => .array .int
  | 30 => .int
  | 31 => .int
  | 32 => .int
  | 33 => .int
  | 34 => .int
  | _ => .int
theorem nmX13 : ∀ a, a < 36 → ∀ b, b < 36 → a ≠ b → (TX13 a).2.1 ≠ (TX13 b).2.1 := by decide +kernel
theorem tyX13_ok : ∀ k, k < 36 → parseFieldDescriptor (TX13 k).2.2.1 = some (tyX13 k) := by decide +kernel
abbrev cX13_init : ByteArray := prog_14_method_1_code
def yX13_init : MethodName := ⟨RX13, "<init>", "()V"⟩
abbrev cX13_thrown : ByteArray := prog_14_method_2_code
def yX13_thrown : MethodName := ⟨RX13, "thrown", "()I"⟩
abbrev cX13_no : ByteArray := prog_14_method_3_code
def yX13_no : MethodName := ⟨RX13, "no", "(I)I"⟩
abbrev cX13_isIn : ByteArray := prog_14_method_4_code
def yX13_isIn : MethodName := ⟨RX13, "isIn", "(III)Z"⟩
abbrev cX13_isPlace : ByteArray := prog_14_method_5_code
def yX13_isPlace : MethodName := ⟨RX13, "isPlace", "(II)Z"⟩
abbrev cX13_apart : ByteArray := prog_14_method_6_code
def yX13_apart : MethodName := ⟨RX13, "apart", "(IIII)I"⟩
abbrev cX13_minutes : ByteArray := prog_14_method_7_code
def yX13_minutes : MethodName := ⟨RX13, "minutes", "(II)I"⟩
abbrev cX13_isHomeNumber : ByteArray := prog_14_method_8_code
def yX13_isHomeNumber : MethodName := ⟨RX13, "isHomeNumber", "(I)Z"⟩
abbrev cX13_isLocker : ByteArray := prog_14_method_9_code
def yX13_isLocker : MethodName := ⟨RX13, "isLocker", "(I)Z"⟩
abbrev cX13_isVan : ByteArray := prog_14_method_10_code
def yX13_isVan : MethodName := ⟨RX13, "isVan", "(I)Z"⟩
abbrev cX13_isParcel : ByteArray := prog_14_method_11_code
def yX13_isParcel : MethodName := ⟨RX13, "isParcel", "(I)Z"⟩
abbrev cX13_setRoads : ByteArray := prog_14_method_12_code
def yX13_setRoads : MethodName := ⟨RX13, "setRoads", "(II)I"⟩
abbrev cX13_setDepot : ByteArray := prog_14_method_13_code
def yX13_setDepot : MethodName := ⟨RX13, "setDepot", "(II)I"⟩
abbrev cX13_addHome : ByteArray := prog_14_method_14_code
def yX13_addHome : MethodName := ⟨RX13, "addHome", "(III)I"⟩
abbrev cX13_order : ByteArray := prog_14_method_15_code
def yX13_order : MethodName := ⟨RX13, "order", "(IZI)I"⟩
abbrev cX13_addLocker : ByteArray := prog_14_method_16_code
def yX13_addLocker : MethodName := ⟨RX13, "addLocker", "(IIIII)I"⟩
abbrev cX13_addVan : ByteArray := prog_14_method_17_code
def yX13_addVan : MethodName := ⟨RX13, "addVan", "(III)I"⟩
abbrev cX13_addParcel : ByteArray := prog_14_method_18_code
def yX13_addParcel : MethodName := ⟨RX13, "addParcel", "(IIIII)I"⟩
abbrev cX13_homeTold : ByteArray := prog_14_method_19_code
def yX13_homeTold : MethodName := ⟨RX13, "homeTold", "(II)I"⟩
abbrev cX13_home : ByteArray := prog_14_method_20_code
def yX13_home : MethodName := ⟨RX13, "home", "(II)I"⟩
abbrev cX13_lockerTold : ByteArray := prog_14_method_21_code
def yX13_lockerTold : MethodName := ⟨RX13, "lockerTold", "(II)I"⟩
abbrev cX13_locker : ByteArray := prog_14_method_22_code
def yX13_locker : MethodName := ⟨RX13, "locker", "(II)I"⟩
abbrev cX13_parcelTold : ByteArray := prog_14_method_23_code
def yX13_parcelTold : MethodName := ⟨RX13, "parcelTold", "(II)I"⟩
abbrev cX13_parcel : ByteArray := prog_14_method_24_code
def yX13_parcel : MethodName := ⟨RX13, "parcel", "(II)I"⟩
abbrev cX13_look : ByteArray := prog_14_method_25_code
def yX13_look : MethodName := ⟨RX13, "look", "(I)V"⟩
abbrev cX13_insert : ByteArray := prog_14_method_26_code
def yX13_insert : MethodName := ⟨RX13, "insert", "(II)V"⟩
abbrev cX13_remove : ByteArray := prog_14_method_27_code
def yX13_remove : MethodName := ⟨RX13, "remove", "(I)V"⟩
abbrev cX13_keep : ByteArray := prog_14_method_28_code
def yX13_keep : MethodName := ⟨RX13, "keep", "(I)V"⟩
abbrev cX13_cost : ByteArray := prog_14_method_29_code
def yX13_cost : MethodName := ⟨RX13, "cost", "(I)I"⟩
abbrev cX13_routeCost : ByteArray := prog_14_method_30_code
def yX13_routeCost : MethodName := ⟨RX13, "routeCost", "(I)I"⟩
abbrev cX13_more : ByteArray := prog_14_method_31_code
def yX13_more : MethodName := ⟨RX13, "more", "(III)I"⟩
abbrev cX13_isFree : ByteArray := prog_14_method_32_code
def yX13_isFree : MethodName := ⟨RX13, "isFree", "(I)Z"⟩
abbrev cX13_put : ByteArray := prog_14_method_33_code
def yX13_put : MethodName := ⟨RX13, "put", "(III)I"⟩
abbrev cX13_take : ByteArray := prog_14_method_34_code
def yX13_take : MethodName := ⟨RX13, "take", "(I)I"⟩
abbrev cX13_route : ByteArray := prog_14_method_35_code
def yX13_route : MethodName := ⟨RX13, "route", "(II)I"⟩
abbrev cX13_vanTold : ByteArray := prog_14_method_36_code
def yX13_vanTold : MethodName := ⟨RX13, "vanTold", "(II)I"⟩
abbrev cX13_van : ByteArray := prog_14_method_37_code
def yX13_van : MethodName := ⟨RX13, "van", "(II)I"⟩
abbrev cX13_stop : ByteArray := prog_14_method_38_code
def yX13_stop : MethodName := ⟨RX13, "stop", "(III)I"⟩
abbrev cX13_adds : ByteArray := prog_14_method_39_code
def yX13_adds : MethodName := ⟨RX13, "adds", "(III)I"⟩
abbrev cX13_best : ByteArray := prog_14_method_40_code
def yX13_best : MethodName := ⟨RX13, "best", "(I)I"⟩
abbrev cX13_cheapest : ByteArray := prog_14_method_41_code
def yX13_cheapest : MethodName := ⟨RX13, "cheapest", "(I)I"⟩
abbrev cX13_plan : ByteArray := prog_14_method_42_code
def yX13_plan : MethodName := ⟨RX13, "plan", "()I"⟩
abbrev cX13_turn : ByteArray := prog_14_method_43_code
def yX13_turn : MethodName := ⟨RX13, "turn", "(II)V"⟩
abbrev cX13_improve : ByteArray := prog_14_method_44_code
def yX13_improve : MethodName := ⟨RX13, "improve", "(I)I"⟩
abbrev cX13_placeOf : ByteArray := prog_14_method_45_code
def yX13_placeOf : MethodName := ⟨RX13, "placeOf", "(II)I"⟩
abbrev cX13_moved : ByteArray := prog_14_method_46_code
def yX13_moved : MethodName := ⟨RX13, "moved", "(IIII)I"⟩
abbrev cX13_move : ByteArray := prog_14_method_47_code
def yX13_move : MethodName := ⟨RX13, "move", "()I"⟩
abbrev cX13_counted : ByteArray := prog_14_method_48_code
def yX13_counted : MethodName := ⟨RX13, "counted", "(I)I"⟩
abbrev cX13_count : ByteArray := prog_14_method_49_code
def yX13_count : MethodName := ⟨RX13, "count", "(I)I"⟩
abbrev cX13_drive : ByteArray := prog_14_method_50_code
def yX13_drive : MethodName := ⟨RX13, "drive", "()I"⟩
abbrev cX13_foresee : ByteArray := prog_14_method_51_code
def yX13_foresee : MethodName := ⟨RX13, "foresee", "(I)I"⟩
abbrev cX13_hour : ByteArray := prog_14_method_52_code
def yX13_hour : MethodName := ⟨RX13, "hour", "(I)I"⟩
abbrev cX13_mean : ByteArray := prog_14_method_53_code
def yX13_mean : MethodName := ⟨RX13, "mean", "()D"⟩
abbrev cX13_digest : ByteArray := prog_14_method_54_code
def yX13_digest : MethodName := ⟨RX13, "digest", "()J"⟩
def RJx145de : String := "java/io/Serializable"
def TJx145de : u_T := fun k => match k with
  | _ => ("", "", "", false)
def tyJx145de : Nat → FieldType := fun k => match k with
  | _ => .int
theorem nmJx145de : ∀ a, a < 0 → ∀ b, b < 0 → a ≠ b → (TJx145de a).2.1 ≠ (TJx145de b).2.1 := by decide +kernel
theorem tyJx145de_ok : ∀ k, k < 0 → parseFieldDescriptor (TJx145de k).2.2.1 = some (tyJx145de k) := by decide +kernel
def RJx8e188 : String := "java/lang/Cloneable"
def TJx8e188 : u_T := fun k => match k with
  | _ => ("", "", "", false)
def tyJx8e188 : Nat → FieldType := fun k => match k with
  | _ => .int
theorem nmJx8e188 : ∀ a, a < 0 → ∀ b, b < 0 → a ≠ b → (TJx8e188 a).2.1 ≠ (TJx8e188 b).2.1 := by decide +kernel
theorem tyJx8e188_ok : ∀ k, k < 0 → parseFieldDescriptor (TJx8e188 k).2.2.1 = some (tyJx8e188 k) := by decide +kernel
def RJxab1ab : String := "java/lang/Iterable"
def TJxab1ab : u_T := fun k => match k with
  | _ => ("", "", "", false)
def tyJxab1ab : Nat → FieldType := fun k => match k with
  | _ => .int
theorem nmJxab1ab : ∀ a, a < 0 → ∀ b, b < 0 → a ≠ b → (TJxab1ab a).2.1 ≠ (TJxab1ab b).2.1 := by decide +kernel
theorem tyJxab1ab_ok : ∀ k, k < 0 → parseFieldDescriptor (TJxab1ab k).2.2.1 = some (tyJxab1ab k) := by decide +kernel
def RJ9 : String := "java/lang/Math"
def TJ9 : u_T := fun k => match k with
  | _ => ("", "", "", false)
def tyJ9 : Nat → FieldType := fun k => match k with
  | _ => .int
theorem nmJ9 : ∀ a, a < 0 → ∀ b, b < 0 → a ≠ b → (TJ9 a).2.1 ≠ (TJ9 b).2.1 := by decide +kernel
theorem tyJ9_ok : ∀ k, k < 0 → parseFieldDescriptor (TJ9 k).2.2.1 = some (tyJ9 k) := by decide +kernel
abbrev cJ9_abs_0f7a4 : ByteArray := prog_23_method_59_code
def yJ9_abs_0f7a4 : MethodName := ⟨RJ9, "abs", "(I)I"⟩
abbrev cJ9_max_7cf53 : ByteArray := prog_23_method_65_code
def yJ9_max_7cf53 : MethodName := ⟨RJ9, "max", "(II)I"⟩
abbrev cJ9_min_7cf53 : ByteArray := prog_23_method_69_code
def yJ9_min_7cf53 : MethodName := ⟨RJ9, "min", "(II)I"⟩
def RJ0 : String := "java/lang/String"
def TJ0 : u_T := fun k => match k with
  | _ => ("", "", "", false)
def tyJ0 : Nat → FieldType := fun k => match k with
  | _ => .int
theorem nmJ0 : ∀ a, a < 0 → ∀ b, b < 0 → a ≠ b → (TJ0 a).2.1 ≠ (TJ0 b).2.1 := by decide +kernel
theorem tyJ0_ok : ∀ k, k < 0 → parseFieldDescriptor (TJ0 k).2.2.1 = some (tyJ0 k) := by decide +kernel
def RJ10 : String := "java/lang/System"
def TJ10 : u_T := fun k => match k with
  | _ => ("", "", "", false)
def tyJ10 : Nat → FieldType := fun k => match k with
  | _ => .int
theorem nmJ10 : ∀ a, a < 0 → ∀ b, b < 0 → a ≠ b → (TJ10 a).2.1 ≠ (TJ10 b).2.1 := by decide +kernel
theorem tyJ10_ok : ∀ k, k < 0 → parseFieldDescriptor (TJ10 k).2.2.1 = some (tyJ10 k) := by decide +kernel
def RJxa1e45 : String := "java/util/AbstractCollection"
def TJxa1e45 : u_T := fun k => match k with
  | _ => ("", "", "", false)
def tyJxa1e45 : Nat → FieldType := fun k => match k with
  | _ => .int
theorem nmJxa1e45 : ∀ a, a < 0 → ∀ b, b < 0 → a ≠ b → (TJxa1e45 a).2.1 ≠ (TJxa1e45 b).2.1 := by decide +kernel
theorem tyJxa1e45_ok : ∀ k, k < 0 → parseFieldDescriptor (TJxa1e45 k).2.2.1 = some (tyJxa1e45 k) := by decide +kernel
abbrev cJxa1e45_init_da8c8 : ByteArray := prog_28_method_1_code
def yJxa1e45_init_da8c8 : MethodName := ⟨RJxa1e45, "<init>", "()V"⟩
def RJxc12de : String := "java/util/AbstractList"
def TJxc12de : u_T := fun k => match k with
  | _ => ("", "", "", false)
def tyJxc12de : Nat → FieldType := fun k => match k with
  | _ => .int
theorem nmJxc12de : ∀ a, a < 0 → ∀ b, b < 0 → a ≠ b → (TJxc12de a).2.1 ≠ (TJxc12de b).2.1 := by decide +kernel
theorem tyJxc12de_ok : ∀ k, k < 0 → parseFieldDescriptor (TJxc12de k).2.2.1 = some (tyJxc12de k) := by decide +kernel
abbrev cJxc12de_init_da8c8 : ByteArray := prog_29_method_1_code
def yJxc12de_init_da8c8 : MethodName := ⟨RJxc12de, "<init>", "()V"⟩
def RJx4a65c : String := "java/util/ArrayList"
def TJx4a65c : u_T := fun k => match k with
  | 0 => ("java/util/AbstractList", "modCount", "I", false)
  | 1 => ("java/util/ArrayList", "elementData", "[Ljava/lang/Object;", false)
  | _ => ("java/util/ArrayList", "size", "I", false)
def tyJx4a65c : Nat → FieldType := fun k => match k with
  | 0 => .int
  | 1 => .array (.object "java/lang/Object")
  | _ => .int
theorem nmJx4a65c : ∀ a, a < 3 → ∀ b, b < 3 → a ≠ b → (TJx4a65c a).2.1 ≠ (TJx4a65c b).2.1 := by decide +kernel
theorem tyJx4a65c_ok : ∀ k, k < 3 → parseFieldDescriptor (TJx4a65c k).2.2.1 = some (tyJx4a65c k) := by decide +kernel
abbrev cJx4a65c_init_da8c8 : ByteArray := prog_30_method_2_code
def yJx4a65c_init_da8c8 : MethodName := ⟨RJx4a65c, "<init>", "()V"⟩
abbrev cJx4a65c_grow_92f84 : ByteArray := prog_30_method_6_code
def yJx4a65c_grow_92f84 : MethodName := ⟨RJx4a65c, "grow", "(I)[Ljava/lang/Object;"⟩
abbrev cJx4a65c_grow_d5877 : ByteArray := prog_30_method_7_code
def yJx4a65c_grow_d5877 : MethodName := ⟨RJx4a65c, "grow", "()[Ljava/lang/Object;"⟩
abbrev cJx4a65c_size_8abf5 : ByteArray := prog_30_method_8_code
def yJx4a65c_size_8abf5 : MethodName := ⟨RJx4a65c, "size", "()I"⟩
abbrev cJx4a65c_isEmpty_aae02 : ByteArray := prog_30_method_9_code
def yJx4a65c_isEmpty_aae02 : MethodName := ⟨RJx4a65c, "isEmpty", "()Z"⟩
abbrev cJx4a65c_elementData_915e3 : ByteArray := prog_30_method_18_code
def yJx4a65c_elementData_915e3 : MethodName := ⟨RJx4a65c, "elementData", "(I)Ljava/lang/Object;"⟩
abbrev cJx4a65c_get_915e3 : ByteArray := prog_30_method_20_code
def yJx4a65c_get_915e3 : MethodName := ⟨RJx4a65c, "get", "(I)Ljava/lang/Object;"⟩
abbrev cJx4a65c_add_72be8 : ByteArray := prog_30_method_24_code
def yJx4a65c_add_72be8 : MethodName := ⟨RJx4a65c, "add", "(Ljava/lang/Object;[Ljava/lang/Object;I)V"⟩
abbrev cJx4a65c_add_9ea2d : ByteArray := prog_30_method_25_code
def yJx4a65c_add_9ea2d : MethodName := ⟨RJx4a65c, "add", "(Ljava/lang/Object;)Z"⟩
def RJ7 : String := "java/util/Arrays"
def TJ7 : u_T := fun k => match k with
  | _ => ("", "", "", false)
def tyJ7 : Nat → FieldType := fun k => match k with
  | _ => .int
theorem nmJ7 : ∀ a, a < 0 → ∀ b, b < 0 → a ≠ b → (TJ7 a).2.1 ≠ (TJ7 b).2.1 := by decide +kernel
theorem tyJ7_ok : ∀ k, k < 0 → parseFieldDescriptor (TJ7 k).2.2.1 = some (tyJ7 k) := by decide +kernel
abbrev cJ7_fill_53178 : ByteArray := prog_31_method_103_code
def yJ7_fill_53178 : MethodName := ⟨RJ7, "fill", "([II)V"⟩
abbrev cJ7_copyOf_1904c : ByteArray := prog_31_method_119_code
def yJ7_copyOf_1904c : MethodName := ⟨RJ7, "copyOf", "([Ljava/lang/Object;I)[Ljava/lang/Object;"⟩
abbrev cJ7_copyOf_6403c : ByteArray := prog_31_method_120_code
def yJ7_copyOf_6403c : MethodName := ⟨RJ7, "copyOf", "([Ljava/lang/Object;ILjava/lang/Class;)[Ljava/lang/Object;"⟩
def RJx5ef63 : String := "java/util/Collection"
def TJx5ef63 : u_T := fun k => match k with
  | _ => ("", "", "", false)
def tyJx5ef63 : Nat → FieldType := fun k => match k with
  | _ => .int
theorem nmJx5ef63 : ∀ a, a < 0 → ∀ b, b < 0 → a ≠ b → (TJx5ef63 a).2.1 ≠ (TJx5ef63 b).2.1 := by decide +kernel
theorem tyJx5ef63_ok : ∀ k, k < 0 → parseFieldDescriptor (TJx5ef63 k).2.2.1 = some (tyJx5ef63 k) := by decide +kernel
def RJxbd725 : String := "java/util/List"
def TJxbd725 : u_T := fun k => match k with
  | _ => ("", "", "", false)
def tyJxbd725 : Nat → FieldType := fun k => match k with
  | _ => .int
theorem nmJxbd725 : ∀ a, a < 0 → ∀ b, b < 0 → a ≠ b → (TJxbd725 a).2.1 ≠ (TJxbd725 b).2.1 := by decide +kernel
theorem tyJxbd725_ok : ∀ k, k < 0 → parseFieldDescriptor (TJxbd725 k).2.2.1 = some (tyJxbd725 k) := by decide +kernel
def RJ15 : String := "java/util/Objects"
def TJ15 : u_T := fun k => match k with
  | _ => ("", "", "", false)
def tyJ15 : Nat → FieldType := fun k => match k with
  | _ => .int
theorem nmJ15 : ∀ a, a < 0 → ∀ b, b < 0 → a ≠ b → (TJ15 a).2.1 ≠ (TJ15 b).2.1 := by decide +kernel
theorem tyJ15_ok : ∀ k, k < 0 → parseFieldDescriptor (TJ15 k).2.2.1 = some (tyJ15 k) := by decide +kernel
abbrev cJ15_checkIndex_7cf53 : ByteArray := prog_34_method_17_code
def yJ15_checkIndex_7cf53 : MethodName := ⟨RJ15, "checkIndex", "(II)I"⟩
def RJxf0a74 : String := "java/util/RandomAccess"
def TJxf0a74 : u_T := fun k => match k with
  | _ => ("", "", "", false)
def tyJxf0a74 : Nat → FieldType := fun k => match k with
  | _ => .int
theorem nmJxf0a74 : ∀ a, a < 0 → ∀ b, b < 0 → a ≠ b → (TJxf0a74 a).2.1 ≠ (TJxf0a74 b).2.1 := by decide +kernel
theorem tyJxf0a74_ok : ∀ k, k < 0 → parseFieldDescriptor (TJxf0a74 k).2.2.1 = some (tyJxf0a74 k) := by decide +kernel
def RJxa66e6 : String := "java/util/SequencedCollection"
def TJxa66e6 : u_T := fun k => match k with
  | _ => ("", "", "", false)
def tyJxa66e6 : Nat → FieldType := fun k => match k with
  | _ => .int
theorem nmJxa66e6 : ∀ a, a < 0 → ∀ b, b < 0 → a ≠ b → (TJxa66e6 a).2.1 ≠ (TJxa66e6 b).2.1 := by decide +kernel
theorem tyJxa66e6_ok : ∀ k, k < 0 → parseFieldDescriptor (TJxa66e6 k).2.2.1 = some (tyJxa66e6 k) := by decide +kernel
def RJ8 : String := "jdk/internal/util/ArraysSupport"
def TJ8 : u_T := fun k => match k with
  | _ => ("", "", "", false)
def tyJ8 : Nat → FieldType := fun k => match k with
  | _ => .int
theorem nmJ8 : ∀ a, a < 0 → ∀ b, b < 0 → a ≠ b → (TJ8 a).2.1 ≠ (TJ8 b).2.1 := by decide +kernel
theorem tyJ8_ok : ∀ k, k < 0 → parseFieldDescriptor (TJ8 k).2.2.1 = some (tyJ8 k) := by decide +kernel
abbrev cJ8_newLength_cabcc : ByteArray := prog_37_method_27_code
def yJ8_newLength_cabcc : MethodName := ⟨RJ8, "newLength", "(III)I"⟩
abbrev cJ8_hugeLength_7cf53 : ByteArray := prog_37_method_28_code
def yJ8_hugeLength_7cf53 : MethodName := ⟨RJ8, "hugeLength", "(II)I"⟩
def RJ3 : String := "jdk/internal/util/Preconditions"
def TJ3 : u_T := fun k => match k with
  | _ => ("", "", "", false)
def tyJ3 : Nat → FieldType := fun k => match k with
  | _ => .int
theorem nmJ3 : ∀ a, a < 0 → ∀ b, b < 0 → a ≠ b → (TJ3 a).2.1 ≠ (TJ3 b).2.1 := by decide +kernel
theorem tyJ3_ok : ∀ k, k < 0 → parseFieldDescriptor (TJ3 k).2.2.1 = some (tyJ3 k) := by decide +kernel
abbrev cJ3_checkIndex_8e157 : ByteArray := prog_38_method_11_code
def yJ3_checkIndex_8e157 : MethodName := ⟨RJ3, "checkIndex", "(IILjava/util/function/BiFunction;)I"⟩
def RL : String := "LastMileLaw"
abbrev cL_setRoads : ByteArray := method_3_code
def yL_setRoads : MethodName := ⟨RL, "setRoads", "(LLastMile;II[J)I"⟩
abbrev cL_setDepot : ByteArray := method_4_code
def yL_setDepot : MethodName := ⟨RL, "setDepot", "(LLastMile;II[J)I"⟩
abbrev cL_addHome : ByteArray := method_5_code
def yL_addHome : MethodName := ⟨RL, "addHome", "(LLastMile;III[J)I"⟩
abbrev cL_order : ByteArray := method_6_code
def yL_order : MethodName := ⟨RL, "order", "(LLastMile;IZI[J)I"⟩
abbrev cL_addLocker : ByteArray := method_7_code
def yL_addLocker : MethodName := ⟨RL, "addLocker", "(LLastMile;IIIII[J)I"⟩
abbrev cL_addVan : ByteArray := method_8_code
def yL_addVan : MethodName := ⟨RL, "addVan", "(LLastMile;III[J)I"⟩
abbrev cL_addParcel : ByteArray := method_9_code
def yL_addParcel : MethodName := ⟨RL, "addParcel", "(LLastMile;IIIII[J)I"⟩
abbrev cL_home : ByteArray := method_10_code
def yL_home : MethodName := ⟨RL, "home", "(LLastMile;II[J)I"⟩
abbrev cL_locker : ByteArray := method_11_code
def yL_locker : MethodName := ⟨RL, "locker", "(LLastMile;II[J)I"⟩
abbrev cL_parcel : ByteArray := method_12_code
def yL_parcel : MethodName := ⟨RL, "parcel", "(LLastMile;II[J)I"⟩
abbrev cL_put : ByteArray := method_13_code
def yL_put : MethodName := ⟨RL, "put", "(LLastMile;III[J)I"⟩
abbrev cL_take : ByteArray := method_14_code
def yL_take : MethodName := ⟨RL, "take", "(LLastMile;I[J)I"⟩
abbrev cL_route : ByteArray := method_15_code
def yL_route : MethodName := ⟨RL, "route", "(LLastMile;II[J)I"⟩
abbrev cL_van : ByteArray := method_16_code
def yL_van : MethodName := ⟨RL, "van", "(LLastMile;II[J)I"⟩
abbrev cL_stop : ByteArray := method_17_code
def yL_stop : MethodName := ⟨RL, "stop", "(LLastMile;III[J)I"⟩
abbrev cL_adds : ByteArray := method_18_code
def yL_adds : MethodName := ⟨RL, "adds", "(LLastMile;III[J)I"⟩
abbrev cL_cheapest : ByteArray := method_19_code
def yL_cheapest : MethodName := ⟨RL, "cheapest", "(LLastMile;I[J)I"⟩
abbrev cL_improve : ByteArray := method_20_code
def yL_improve : MethodName := ⟨RL, "improve", "(LLastMile;I[J)I"⟩
abbrev cL_count : ByteArray := method_21_code
def yL_count : MethodName := ⟨RL, "count", "(LLastMile;I[J)I"⟩
abbrev cL_foresee : ByteArray := method_22_code
def yL_foresee : MethodName := ⟨RL, "foresee", "(LLastMile;I[J)I"⟩
abbrev cL_hour : ByteArray := method_23_code
def yL_hour : MethodName := ⟨RL, "hour", "(LLastMile;I[J)I"⟩
abbrev cL_law : ByteArray := code
def yL_law : MethodName := ⟨RL, "law", "([I)Z"⟩
abbrev vwCl : List vw_C := [(RJx4a65c, TJx4a65c, 3), (RX0, TX0, 3), (RX1, TX1, 4), (RX2, TX2, 3), (RX3, TX3, 14), (RX4, TX4, 2), (RX5, TX5, 6), (RX6, TX6, 2), (RX7, TX7, 6), (RX8, TX8, 2), (RX9, TX9, 6), (RX10, TX10, 5), (RX11, TX11, 11), (RX12, TX12, 15), (RX13, TX13, 36)]
