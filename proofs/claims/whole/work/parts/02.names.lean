-- names: classes, fields, methods, words by their places (printed by wip/whole/names.py out of the claim's tables)
def uw : List Cond := lw_tbl.filter goodWord
theorem mem_uw {w : Cond} (i : Nat) (h : lw_tbl[i]? = some w) (g : goodWord w = true) : w ∈ uw := List.mem_filter.mpr ⟨List.mem_of_getElem? h, g⟩
theorem in_uw (ws : List Cond) (ps : List Nat) (hp : ws = ps.filterMap (fun i => lw_tbl[i]?)) (h : ws.all goodWord = true) : ∀ w ∈ ws, w ∈ uw := by
  intro w hw
  have h1 := List.all_eq_true.mp h w hw
  rw [hp] at hw
  obtain ⟨i, -, hi⟩ := List.mem_filterMap.mp hw
  exact mem_uw i hi h1
abbrev RX0 : String := "NextButOne$Chairs"
abbrev RX1 : String := "NextButOne$Folk"
abbrev RX2 : String := "NextButOne$Realm"
abbrev RX3 : String := "NextButOne$Script"
abbrev RX4 : String := "NextButOne$Seat"
abbrev RX5 : String := "NextButOne$Sheet"
abbrev RX6 : String := "NextButOne$Tape"
abbrev RX7 : String := "NextButOne"
abbrev RX8 : String := "NextButOneModel"
abbrev RJx145de : String := "java/io/Serializable"
abbrev RJx9f9b0 : String := "java/lang/CharSequence"
abbrev RJ11 : String := "java/lang/Character"
abbrev RJxb160c : String := "java/lang/Comparable"
abbrev RJ6 : String := "java/lang/Integer"
abbrev RJ9 : String := "java/lang/Math"
abbrev RJ0 : String := "java/lang/String"
abbrev RJ1 : String := "java/lang/StringLatin1"
abbrev RJ2 : String := "java/lang/StringUTF16"
abbrev RJ10 : String := "java/lang/System"
abbrev RJxfd54e : String := "java/lang/constant/Constable"
abbrev RJx3cf43 : String := "java/lang/constant/ConstantDesc"
abbrev RJ7 : String := "java/util/Arrays"
abbrev RJ3 : String := "jdk/internal/util/Preconditions"
abbrev RL : String := "NextButOneLaw"
def TX0 : u_T := fun k => match k with
  | 0 => ("NextButOne$Chairs", "realm", "LNextButOne$Realm;", true)
  | 1 => ("NextButOne$Chairs", "trial", "LNextButOne$Seat;", true)
  | 2 => ("NextButOne$Chairs", "ofSort", "[I", true)
  | 3 => ("NextButOne$Chairs", "without", "[I", true)
  | 4 => ("NextButOne$Chairs", "codes", "[I", true)
  | 5 => ("NextButOne$Chairs", "sitters", "[I", true)
  | 6 => ("NextButOne$Chairs", "first", "I", false)
  | _ => ("NextButOne$Chairs", "again", "I", false)
def tyX0 : Nat → FieldType := fun k => match k with
  | 0 => .object "NextButOne$Realm"
  | 1 => .object "NextButOne$Seat"
  | 2 => .array .int
  | 3 => .array .int
  | 4 => .array .int
  | 5 => .array .int
  | 6 => .int
  | _ => .int
theorem nmX0 : ∀ a, a < 8 → ∀ b, b < 8 → a ≠ b → (TX0 a).2.1 ≠ (TX0 b).2.1 := by decide +kernel
theorem tyX0_ok : ∀ k, k < 8 → parseFieldDescriptor (TX0 k).2.2.1 = some (tyX0 k) := by decide +kernel
set_option maxRecDepth 100000 in
theorem inX0 : ∀ w ∈ u_ws RX0 TX0 8, w ∈ uw := in_uw _ [234, 236, 238, 240, 242, 244, 246, 248] (by decide +kernel) (by decide +kernel)
def TX1 : u_T := fun k => match k with
  | 0 => ("NextButOne$Folk", "people", "I", false)
  | 1 => ("NextButOne$Folk", "kind", "[I", true)
  | 2 => ("NextButOne$Folk", "age", "[I", true)
  | 3 => ("NextButOne$Folk", "sort", "[I", true)
  | 4 => ("NextButOne$Folk", "kin", "[I", true)
  | 5 => ("NextButOne$Folk", "dead", "I", false)
  | 6 => ("NextButOne$Folk", "liking", "[I", true)
  | 7 => ("NextButOne$Folk", "value", "[I", true)
  | _ => ("NextButOne$Folk", "z", "I", false)
def tyX1 : Nat → FieldType := fun k => match k with
  | 0 => .int
  | 1 => .array .int
  | 2 => .array .int
  | 3 => .array .int
  | 4 => .array .int
  | 5 => .int
  | 6 => .array .int
  | 7 => .array .int
  | _ => .int
theorem nmX1 : ∀ a, a < 9 → ∀ b, b < 9 → a ≠ b → (TX1 a).2.1 ≠ (TX1 b).2.1 := by decide +kernel
theorem tyX1_ok : ∀ k, k < 9 → parseFieldDescriptor (TX1 k).2.2.1 = some (tyX1 k) := by decide +kernel
set_option maxRecDepth 100000 in
theorem inX1 : ∀ w ∈ u_ws RX1 TX1 9, w ∈ uw := in_uw _ [114, 116, 118, 120, 122, 124, 126, 128, 130] (by decide +kernel) (by decide +kernel)
def TX2 : u_T := fun k => match k with
  | 0 => ("NextButOne$Realm", "folk", "LNextButOne$Folk;", true)
  | 1 => ("NextButOne$Realm", "script", "LNextButOne$Script;", true)
  | 2 => ("NextButOne$Realm", "trial", "LNextButOne$Seat;", true)
  | _ => ("NextButOne$Realm", "seat", "LNextButOne$Seat;", true)
def tyX2 : Nat → FieldType := fun k => match k with
  | 0 => .object "NextButOne$Folk"
  | 1 => .object "NextButOne$Script"
  | 2 => .object "NextButOne$Seat"
  | _ => .object "NextButOne$Seat"
theorem nmX2 : ∀ a, a < 4 → ∀ b, b < 4 → a ≠ b → (TX2 a).2.1 ≠ (TX2 b).2.1 := by decide +kernel
theorem tyX2_ok : ∀ k, k < 4 → parseFieldDescriptor (TX2 k).2.2.1 = some (tyX2 k) := by decide +kernel
set_option maxRecDepth 100000 in
theorem inX2 : ∀ w ∈ u_ws RX2 TX2 4, w ∈ uw := in_uw _ [205, 207, 209, 211] (by decide +kernel) (by decide +kernel)
def TX3 : u_T := fun k => match k with
  | 0 => ("NextButOne$Script", "codes", "[I", true)
  | 1 => ("NextButOne$Script", "stack", "[I", true)
  | _ => ("NextButOne$Script", "length", "I", false)
def tyX3 : Nat → FieldType := fun k => match k with
  | 0 => .array .int
  | 1 => .array .int
  | _ => .int
theorem nmX3 : ∀ a, a < 3 → ∀ b, b < 3 → a ≠ b → (TX3 a).2.1 ≠ (TX3 b).2.1 := by decide +kernel
theorem tyX3_ok : ∀ k, k < 3 → parseFieldDescriptor (TX3 k).2.2.1 = some (tyX3 k) := by decide +kernel
set_option maxRecDepth 100000 in
theorem inX3 : ∀ w ∈ u_ws RX3 TX3 3, w ∈ uw := in_uw _ [145, 147, 149] (by decide +kernel) (by decide +kernel)
def TX4 : u_T := fun k => match k with
  | 0 => ("NextButOne$Seat", "folk", "LNextButOne$Folk;", true)
  | 1 => ("NextButOne$Seat", "script", "LNextButOne$Script;", true)
  | 2 => ("NextButOne$Seat", "trial", "LNextButOne$Seat;", true)
  | 3 => ("NextButOne$Seat", "rules", "[I", true)
  | 4 => ("NextButOne$Seat", "line", "[I", true)
  | 5 => ("NextButOne$Seat", "ruled", "[I", true)
  | 6 => ("NextButOne$Seat", "sits", "I", false)
  | 7 => ("NextButOne$Seat", "reign", "I", false)
  | 8 => ("NextButOne$Seat", "keeper", "I", false)
  | _ => ("NextButOne$Seat", "otherKeeper", "I", false)
def tyX4 : Nat → FieldType := fun k => match k with
  | 0 => .object "NextButOne$Folk"
  | 1 => .object "NextButOne$Script"
  | 2 => .object "NextButOne$Seat"
  | 3 => .array .int
  | 4 => .array .int
  | 5 => .array .int
  | 6 => .int
  | 7 => .int
  | 8 => .int
  | _ => .int
theorem nmX4 : ∀ a, a < 10 → ∀ b, b < 10 → a ≠ b → (TX4 a).2.1 ≠ (TX4 b).2.1 := by decide +kernel
theorem tyX4_ok : ∀ k, k < 10 → parseFieldDescriptor (TX4 k).2.2.1 = some (tyX4 k) := by decide +kernel
set_option maxRecDepth 100000 in
theorem inX4 : ∀ w ∈ u_ws RX4 TX4 10, w ∈ uw := in_uw _ [173, 175, 177, 179, 181, 183, 185, 187, 189, 191] (by decide +kernel) (by decide +kernel)
def TX5 : u_T := fun k => match k with
  | 0 => ("NextButOne$Sheet", "bits", "I", false)
  | 1 => ("NextButOne$Sheet", "length", "I", false)
  | _ => ("NextButOne$Sheet", "numbers", "[J", true)
def tyX5 : Nat → FieldType := fun k => match k with
  | 0 => .int
  | 1 => .int
  | _ => .array .long
theorem nmX5 : ∀ a, a < 3 → ∀ b, b < 3 → a ≠ b → (TX5 a).2.1 ≠ (TX5 b).2.1 := by decide +kernel
theorem tyX5_ok : ∀ k, k < 3 → parseFieldDescriptor (TX5 k).2.2.1 = some (tyX5 k) := by decide +kernel
set_option maxRecDepth 100000 in
theorem inX5 : ∀ w ∈ u_ws RX5 TX5 3, w ∈ uw := in_uw _ [292, 294, 296] (by decide +kernel) (by decide +kernel)
def TX6 : u_T := fun k => match k with
  | 0 => ("NextButOne$Tape", "bytes", "[C", true)
  | 1 => ("NextButOne$Tape", "draft", "LNextButOne$Script;", true)
  | 2 => ("NextButOne$Tape", "size", "I", false)
  | 3 => ("NextButOne$Tape", "at", "I", false)
  | _ => ("NextButOne$Tape", "fault", "Z", false)
def tyX6 : Nat → FieldType := fun k => match k with
  | 0 => .array .char
  | 1 => .object "NextButOne$Script"
  | 2 => .int
  | 3 => .int
  | _ => .boolean
theorem nmX6 : ∀ a, a < 5 → ∀ b, b < 5 → a ≠ b → (TX6 a).2.1 ≠ (TX6 b).2.1 := by decide +kernel
theorem tyX6_ok : ∀ k, k < 5 → parseFieldDescriptor (TX6 k).2.2.1 = some (tyX6 k) := by decide +kernel
set_option maxRecDepth 100000 in
theorem inX6 : ∀ w ∈ u_ws RX6 TX6 5, w ∈ uw := in_uw _ [267, 269, 271, 273, 275] (by decide +kernel) (by decide +kernel)
def TX7 : u_T := fun k => match k with
  | 0 => ("NextButOne", "realm", "LNextButOne$Realm;", true)
  | 1 => ("NextButOne", "image", "LNextButOne$Realm;", true)
  | 2 => ("NextButOne", "later", "LNextButOne$Realm;", true)
  | 3 => ("NextButOne", "chairs", "LNextButOne$Chairs;", true)
  | 4 => ("NextButOne", "tape", "LNextButOne$Tape;", true)
  | 5 => ("NextButOne", "sheets", "[LNextButOne$Sheet;", true)
  | 6 => ("NextButOne", "found", "[I", true)
  | _ => ("NextButOne", "imageKept", "Z", false)
def tyX7 : Nat → FieldType := fun k => match k with
  | 0 => .object "NextButOne$Realm"
  | 1 => .object "NextButOne$Realm"
  | 2 => .object "NextButOne$Realm"
  | 3 => .object "NextButOne$Chairs"
  | 4 => .object "NextButOne$Tape"
  | 5 => .array (.object "NextButOne$Sheet")
  | 6 => .array .int
  | _ => .boolean
theorem nmX7 : ∀ a, a < 8 → ∀ b, b < 8 → a ≠ b → (TX7 a).2.1 ≠ (TX7 b).2.1 := by decide +kernel
theorem tyX7_ok : ∀ k, k < 8 → parseFieldDescriptor (TX7 k).2.2.1 = some (tyX7 k) := by decide +kernel
set_option maxRecDepth 100000 in
theorem inX7 : ∀ w ∈ u_ws RX7 TX7 8, w ∈ uw := in_uw _ [308, 310, 312, 314, 316, 318, 320, 322] (by decide +kernel) (by decide +kernel)
def TX8 : u_T := fun k => match k with
  | 0 => ("NextButOneModel", "s", "[I", true)
  | 1 => ("NextButOneModel", "kept", "[I", true)
  | 2 => ("NextButOneModel", "isKept", "Z", false)
  | 3 => ("NextButOneModel", "findings", "[I", true)
  | 4 => ("NextButOneModel", "tape", "[I", true)
  | 5 => ("NextButOneModel", "taped", "I", false)
  | 6 => ("NextButOneModel", "bitsOf", "[I", true)
  | 7 => ("NextButOneModel", "sizes", "[I", true)
  | 8 => ("NextButOneModel", "numbers", "[J", true)
  | 9 => ("NextButOneModel", "wordOne", "I", false)
  | 10 => ("NextButOneModel", "wordOther", "I", false)
  | 11 => ("NextButOneModel", "inner", "[I", true)
  | 12 => ("NextButOneModel", "isFollowing", "Z", false)
  | 13 => ("NextButOneModel", "outer", "[I", true)
  | 14 => ("NextButOneModel", "was", "[I", true)
  | 15 => ("NextButOneModel", "who", "[I", true)
  | 16 => ("NextButOneModel", "soFirst", "I", false)
  | 17 => ("NextButOneModel", "soAgain", "I", false)
  | 18 => ("NextButOneModel", "step", "[I", true)
  | 19 => ("NextButOneModel", "stepMany", "I", false)
  | 20 => ("NextButOneModel", "waitSign", "[I", true)
  | 21 => ("NextButOneModel", "waitMany", "I", false)
  | 22 => ("NextButOneModel", "isCompared", "[Z", true)
  | 23 => ("NextButOneModel", "level", "I", false)
  | 24 => ("NextButOneModel", "opened", "I", false)
  | _ => ("NextButOneModel", "stack", "[I", true)
def tyX8 : Nat → FieldType := fun k => match k with
  | 0 => .array .int
  | 1 => .array .int
  | 2 => .boolean
  | 3 => .array .int
  | 4 => .array .int
  | 5 => .int
  | 6 => .array .int
  | 7 => .array .int
  | 8 => .array .long
  | 9 => .int
  | 10 => .int
  | 11 => .array .int
  | 12 => .boolean
  | 13 => .array .int
  | 14 => .array .int
  | 15 => .array .int
  | 16 => .int
  | 17 => .int
  | 18 => .array .int
  | 19 => .int
  | 20 => .array .int
  | 21 => .int
  | 22 => .array .boolean
  | 23 => .int
  | 24 => .int
  | _ => .array .int
theorem nmX8 : ∀ a, a < 26 → ∀ b, b < 26 → a ≠ b → (TX8 a).2.1 ≠ (TX8 b).2.1 := by decide +kernel
theorem tyX8_ok : ∀ k, k < 26 → parseFieldDescriptor (TX8 k).2.2.1 = some (tyX8 k) := by decide +kernel
set_option maxRecDepth 100000 in
theorem inX8 : ∀ w ∈ u_ws RX8 TX8 26, w ∈ uw := in_uw _ [943, 945, 947, 949, 951, 953, 955, 957, 959, 961, 963, 965, 967, 969, 971, 973, 975, 977, 979, 981, 983, 985, 987, 989, 991, 993] (by decide +kernel) (by decide +kernel)
abbrev vwCl : List vw_C := [(RX0, TX0, 8), (RX1, TX1, 9), (RX2, TX2, 4), (RX3, TX3, 3), (RX4, TX4, 10), (RX5, TX5, 3), (RX6, TX6, 5), (RX7, TX7, 8), (RX8, TX8, 26)]
abbrev cX0_init : ByteArray := prog_2_method_1_code
abbrev yX0_init : MethodName := ⟨"NextButOne$Chairs", "<init>", "(LNextButOne$Realm;)V"⟩
abbrev cX0_start : ByteArray := prog_2_method_2_code
abbrev yX0_start : MethodName := ⟨"NextButOne$Chairs", "start", "()V"⟩
abbrev cX0_tally : ByteArray := prog_2_method_3_code
abbrev yX0_tally : MethodName := ⟨"NextButOne$Chairs", "tally", "(I)V"⟩
abbrev cX0_worthFor : ByteArray := prog_2_method_4_code
abbrev yX0_worthFor : MethodName := ⟨"NextButOne$Chairs", "worthFor", "(I)I"⟩
abbrev cX0_goRound : ByteArray := prog_2_method_5_code
abbrev yX0_goRound : MethodName := ⟨"NextButOne$Chairs", "goRound", "()Z"⟩
abbrev cX0_whoGoesRound : ByteArray := prog_2_method_6_code
abbrev yX0_whoGoesRound : MethodName := ⟨"NextButOne$Chairs", "whoGoesRound", "()I"⟩
abbrev cX0_noteWithout : ByteArray := prog_2_method_7_code
abbrev yX0_noteWithout : MethodName := ⟨"NextButOne$Chairs", "noteWithout", "()V"⟩
abbrev cX0_moreFor : ByteArray := prog_2_method_8_code
abbrev yX0_moreFor : MethodName := ⟨"NextButOne$Chairs", "moreFor", "(I)I"⟩
abbrev cX1_init : ByteArray := prog_3_method_1_code
abbrev yX1_init : MethodName := ⟨"NextButOne$Folk", "<init>", "()V"⟩
abbrev cX1_takeFrom : ByteArray := prog_3_method_2_code
abbrev yX1_takeFrom : MethodName := ⟨"NextButOne$Folk", "takeFrom", "(LNextButOne$Folk;)V"⟩
abbrev cX1_join : ByteArray := prog_3_method_3_code
abbrev yX1_join : MethodName := ⟨"NextButOne$Folk", "join", "(III)I"⟩
abbrev cX1_trait : ByteArray := prog_3_method_4_code
abbrev yX1_trait : MethodName := ⟨"NextButOne$Folk", "trait", "(I)[I"⟩
abbrev cX1_alive : ByteArray := prog_3_method_5_code
abbrev yX1_alive : MethodName := ⟨"NextButOne$Folk", "alive", "()I"⟩
abbrev cX1_isAlive : ByteArray := prog_3_method_6_code
abbrev yX1_isAlive : MethodName := ⟨"NextButOne$Folk", "isAlive", "(I)Z"⟩
abbrev cX1_ofSort : ByteArray := prog_3_method_7_code
abbrev yX1_ofSort : MethodName := ⟨"NextButOne$Folk", "ofSort", "(I)I"⟩
abbrev cX1_likedByOthers : ByteArray := prog_3_method_8_code
abbrev yX1_likedByOthers : MethodName := ⟨"NextButOne$Folk", "likedByOthers", "(I)I"⟩
abbrev cX1_worthOf : ByteArray := prog_3_method_9_code
abbrev yX1_worthOf : MethodName := ⟨"NextButOne$Folk", "worthOf", "(II)I"⟩
abbrev cX1_grow : ByteArray := prog_3_method_10_code
abbrev yX1_grow : MethodName := ⟨"NextButOne$Folk", "grow", "()V"⟩
abbrev cX1_drawLots : ByteArray := prog_3_method_11_code
abbrev yX1_drawLots : MethodName := ⟨"NextButOne$Folk", "drawLots", "(I)V"⟩
abbrev cX2_init : ByteArray := prog_4_method_1_code
abbrev yX2_init : MethodName := ⟨"NextButOne$Realm", "<init>", "()V"⟩
abbrev cX2_takeFrom : ByteArray := prog_4_method_2_code
abbrev yX2_takeFrom : MethodName := ⟨"NextButOne$Realm", "takeFrom", "(LNextButOne$Realm;)V"⟩
abbrev cX3_init : ByteArray := prog_5_method_1_code
abbrev yX3_init : MethodName := ⟨"NextButOne$Script", "<init>", "()V"⟩
abbrev cX3_isThere : ByteArray := prog_5_method_2_code
abbrev yX3_isThere : MethodName := ⟨"NextButOne$Script", "isThere", "()Z"⟩
abbrev cX3_takeFrom : ByteArray := prog_5_method_3_code
abbrev yX3_takeFrom : MethodName := ⟨"NextButOne$Script", "takeFrom", "(LNextButOne$Script;)V"⟩
abbrev cX3_putNumber : ByteArray := prog_5_method_4_code
abbrev yX3_putNumber : MethodName := ⟨"NextButOne$Script", "putNumber", "(I)V"⟩
abbrev cX3_putSign : ByteArray := prog_5_method_5_code
abbrev yX3_putSign : MethodName := ⟨"NextButOne$Script", "putSign", "(C)V"⟩
abbrev cX3_work : ByteArray := prog_5_method_6_code
abbrev yX3_work : MethodName := ⟨"NextButOne$Script", "work", "(LNextButOne$Seat;II)I"⟩
abbrev cX3_truth : ByteArray := prog_5_method_7_code
abbrev yX3_truth : MethodName := ⟨"NextButOne$Script", "truth", "(Z)I"⟩
abbrev cX3_join : ByteArray := prog_5_method_8_code
abbrev yX3_join : MethodName := ⟨"NextButOne$Script", "join", "(CII)I"⟩
abbrev cX4_init : ByteArray := prog_6_method_1_code
abbrev yX4_init : MethodName := ⟨"NextButOne$Seat", "<init>", "(LNextButOne$Folk;LNextButOne$Script;LNextButOne$Seat;)V"⟩
abbrev cX4_takeFrom : ByteArray := prog_6_method_2_code
abbrev yX4_takeFrom : MethodName := ⟨"NextButOne$Seat", "takeFrom", "(LNextButOne$Seat;)V"⟩
abbrev cX4_keepWord : ByteArray := prog_6_method_3_code
abbrev yX4_keepWord : MethodName := ⟨"NextButOne$Seat", "keepWord", "(II)V"⟩
abbrev cX4_giveRule : ByteArray := prog_6_method_4_code
abbrev yX4_giveRule : MethodName := ⟨"NextButOne$Seat", "giveRule", "(II)V"⟩
abbrev cX4_placeOf : ByteArray := prog_6_method_5_code
abbrev yX4_placeOf : MethodName := ⟨"NextButOne$Seat", "placeOf", "(I)I"⟩
abbrev cX4_named : ByteArray := prog_6_method_6_code
abbrev yX4_named : MethodName := ⟨"NextButOne$Seat", "named", "()I"⟩
abbrev cX4_firstNamed : ByteArray := prog_6_method_7_code
abbrev yX4_firstNamed : MethodName := ⟨"NextButOne$Seat", "firstNamed", "()I"⟩
abbrev cX4_ruledByAll : ByteArray := prog_6_method_8_code
abbrev yX4_ruledByAll : MethodName := ⟨"NextButOne$Seat", "ruledByAll", "()I"⟩
abbrev cX4_code : ByteArray := prog_6_method_9_code
abbrev yX4_code : MethodName := ⟨"NextButOne$Seat", "code", "()I"⟩
abbrev cX4_allowed : ByteArray := prog_6_method_10_code
abbrev yX4_allowed : MethodName := ⟨"NextButOne$Seat", "allowed", "(I)I"⟩
abbrev cX4_choice : ByteArray := prog_6_method_11_code
abbrev yX4_choice : MethodName := ⟨"NextButOne$Seat", "choice", "(II)I"⟩
abbrev cX4_wayOf : ByteArray := prog_6_method_12_code
abbrev yX4_wayOf : MethodName := ⟨"NextButOne$Seat", "wayOf", "(II)I"⟩
abbrev cX4_measure : ByteArray := prog_6_method_13_code
abbrev yX4_measure : MethodName := ⟨"NextButOne$Seat", "measure", "(IIII)I"⟩
abbrev cX4_whatFollows : ByteArray := prog_6_method_14_code
abbrev yX4_whatFollows : MethodName := ⟨"NextButOne$Seat", "whatFollows", "(III)I"⟩
abbrev cX4_next : ByteArray := prog_6_method_15_code
abbrev yX4_next : MethodName := ⟨"NextButOne$Seat", "next", "(I)I"⟩
abbrev cX4_moveUp : ByteArray := prog_6_method_16_code
abbrev yX4_moveUp : MethodName := ⟨"NextButOne$Seat", "moveUp", "()I"⟩
abbrev cX4_year : ByteArray := prog_6_method_17_code
abbrev yX4_year : MethodName := ⟨"NextButOne$Seat", "year", "()Z"⟩
abbrev cX4_bury : ByteArray := prog_6_method_18_code
abbrev yX4_bury : MethodName := ⟨"NextButOne$Seat", "bury", "()V"⟩
abbrev cX4_valueOf : ByteArray := prog_6_method_19_code
abbrev yX4_valueOf : MethodName := ⟨"NextButOne$Seat", "valueOf", "(CII)I"⟩
abbrev cX5_init : ByteArray := prog_7_method_1_code
abbrev yX5_init : MethodName := ⟨"NextButOne$Sheet", "<init>", "()V"⟩
abbrev cX5_isMissing : ByteArray := prog_7_method_2_code
abbrev yX5_isMissing : MethodName := ⟨"NextButOne$Sheet", "isMissing", "()Z"⟩
abbrev cX5_lay : ByteArray := prog_7_method_3_code
abbrev yX5_lay : MethodName := ⟨"NextButOne$Sheet", "lay", "(II)V"⟩
abbrev cX5_lowest : ByteArray := prog_7_method_4_code
abbrev yX5_lowest : MethodName := ⟨"NextButOne$Sheet", "lowest", "(J)J"⟩
abbrev cX5_holds : ByteArray := prog_7_method_5_code
abbrev yX5_holds : MethodName := ⟨"NextButOne$Sheet", "holds", "(II)Z"⟩
abbrev cX6_init : ByteArray := prog_8_method_1_code
abbrev yX6_init : MethodName := ⟨"NextButOne$Tape", "<init>", "()V"⟩
abbrev cX6_put : ByteArray := prog_8_method_2_code
abbrev yX6_put : MethodName := ⟨"NextButOne$Tape", "put", "(I)V"⟩
abbrev cX6_parse : ByteArray := prog_8_method_3_code
abbrev yX6_parse : MethodName := ⟨"NextButOne$Tape", "parse", "()Z"⟩
abbrev cX6_sees : ByteArray := prog_8_method_4_code
abbrev yX6_sees : MethodName := ⟨"NextButOne$Tape", "sees", "(C)Z"⟩
abbrev cX6_takes : ByteArray := prog_8_method_5_code
abbrev yX6_takes : MethodName := ⟨"NextButOne$Tape", "takes", "(C)Z"⟩
abbrev cX6_seesDigit : ByteArray := prog_8_method_6_code
abbrev yX6_seesDigit : MethodName := ⟨"NextButOne$Tape", "seesDigit", "()Z"⟩
abbrev cX6_readT : ByteArray := prog_8_method_7_code
abbrev yX6_readT : MethodName := ⟨"NextButOne$Tape", "readT", "(I)V"⟩
abbrev cX6_readA : ByteArray := prog_8_method_8_code
abbrev yX6_readA : MethodName := ⟨"NextButOne$Tape", "readA", "(I)V"⟩
abbrev cX6_readB : ByteArray := prog_8_method_9_code
abbrev yX6_readB : MethodName := ⟨"NextButOne$Tape", "readB", "(I)V"⟩
abbrev cX6_readS : ByteArray := prog_8_method_10_code
abbrev yX6_readS : MethodName := ⟨"NextButOne$Tape", "readS", "(I)V"⟩
abbrev cX6_readP : ByteArray := prog_8_method_11_code
abbrev yX6_readP : MethodName := ⟨"NextButOne$Tape", "readP", "(I)V"⟩
abbrev cX6_readQ : ByteArray := prog_8_method_12_code
abbrev yX6_readQ : MethodName := ⟨"NextButOne$Tape", "readQ", "(I)V"⟩
abbrev cX6_readNumber : ByteArray := prog_8_method_13_code
abbrev yX6_readNumber : MethodName := ⟨"NextButOne$Tape", "readNumber", "()V"⟩
abbrev cX7_init : ByteArray := prog_1_method_1_code
abbrev yX7_init : MethodName := ⟨"NextButOne", "<init>", "()V"⟩
abbrev cX7_person : ByteArray := prog_1_method_2_code
abbrev yX7_person : MethodName := ⟨"NextButOne", "person", "(III)I"⟩
abbrev cX7_of : ByteArray := prog_1_method_3_code
abbrev yX7_of : MethodName := ⟨"NextButOne", "of", "(II)I"⟩
abbrev cX7_set : ByteArray := prog_1_method_4_code
abbrev yX7_set : MethodName := ⟨"NextButOne", "set", "(III)I"⟩
abbrev cX7_as : ByteArray := prog_1_method_5_code
abbrev yX7_as : MethodName := ⟨"NextButOne", "as", "(II)I"⟩
abbrev cX7_likes : ByteArray := prog_1_method_6_code
abbrev yX7_likes : MethodName := ⟨"NextButOne", "likes", "(III)I"⟩
abbrev cX7_worth : ByteArray := prog_1_method_7_code
abbrev yX7_worth : MethodName := ⟨"NextButOne", "worth", "(III)I"⟩
abbrev cX7_rule : ByteArray := prog_1_method_8_code
abbrev yX7_rule : MethodName := ⟨"NextButOne", "rule", "(II)I"⟩
abbrev cX7_sit : ByteArray := prog_1_method_9_code
abbrev yX7_sit : MethodName := ⟨"NextButOne", "sit", "(I)I"⟩
abbrev cX7_line : ByteArray := prog_1_method_10_code
abbrev yX7_line : MethodName := ⟨"NextButOne", "line", "(II)I"⟩
abbrev cX7_may : ByteArray := prog_1_method_11_code
abbrev yX7_may : MethodName := ⟨"NextButOne", "may", "(I)I"⟩
abbrev cX7_follows : ByteArray := prog_1_method_12_code
abbrev yX7_follows : MethodName := ⟨"NextButOne", "follows", "(II)I"⟩
abbrev cX7_come : ByteArray := prog_1_method_13_code
abbrev yX7_come : MethodName := ⟨"NextButOne", "come", "()I"⟩
abbrev cX7_years : ByteArray := prog_1_method_14_code
abbrev yX7_years : MethodName := ⟨"NextButOne", "years", "(I)I"⟩
abbrev cX7_seed : ByteArray := prog_1_method_15_code
abbrev yX7_seed : MethodName := ⟨"NextButOne", "seed", "(I)I"⟩
abbrev cX7_now : ByteArray := prog_1_method_16_code
abbrev yX7_now : MethodName := ⟨"NextButOne", "now", "(I)I"⟩
abbrev cX7_ahead : ByteArray := prog_1_method_17_code
abbrev yX7_ahead : MethodName := ⟨"NextButOne", "ahead", "(I)I"⟩
abbrev cX7_ever : ByteArray := prog_1_method_18_code
abbrev yX7_ever : MethodName := ⟨"NextButOne", "ever", "()I"⟩
abbrev cX7_turns : ByteArray := prog_1_method_19_code
abbrev yX7_turns : MethodName := ⟨"NextButOne", "turns", "(I)I"⟩
abbrev cX7_share : ByteArray := prog_1_method_20_code
abbrev yX7_share : MethodName := ⟨"NextButOne", "share", "(II)I"⟩
abbrev cX7_has : ByteArray := prog_1_method_21_code
abbrev yX7_has : MethodName := ⟨"NextButOne", "has", "(II)I"⟩
abbrev cX7_but : ByteArray := prog_1_method_22_code
abbrev yX7_but : MethodName := ⟨"NextButOne", "but", "(III)I"⟩
abbrev cX7_vote : ByteArray := prog_1_method_23_code
abbrev yX7_vote : MethodName := ⟨"NextButOne", "vote", "()I"⟩
abbrev cX7_kept : ByteArray := prog_1_method_24_code
abbrev yX7_kept : MethodName := ⟨"NextButOne", "kept", "(III)I"⟩
abbrev cX7_pact : ByteArray := prog_1_method_25_code
abbrev yX7_pact : MethodName := ⟨"NextButOne", "pact", "(I)I"⟩
abbrev cX7_odds : ByteArray := prog_1_method_26_code
abbrev yX7_odds : MethodName := ⟨"NextButOne", "odds", "(II)I"⟩
abbrev cX7_feed : ByteArray := prog_1_method_27_code
abbrev yX7_feed : MethodName := ⟨"NextButOne", "feed", "(II)I"⟩
abbrev cX7_wipe : ByteArray := prog_1_method_28_code
abbrev yX7_wipe : MethodName := ⟨"NextButOne", "wipe", "()I"⟩
abbrev cX7_text : ByteArray := prog_1_method_29_code
abbrev yX7_text : MethodName := ⟨"NextButOne", "text", "()I"⟩
abbrev cX7_gives : ByteArray := prog_1_method_30_code
abbrev yX7_gives : MethodName := ⟨"NextButOne", "gives", "(II)I"⟩
abbrev cX7_untell : ByteArray := prog_1_method_31_code
abbrev yX7_untell : MethodName := ⟨"NextButOne", "untell", "()I"⟩
abbrev cX7_sheet : ByteArray := prog_1_method_32_code
abbrev yX7_sheet : MethodName := ⟨"NextButOne", "sheet", "(III)I"⟩
abbrev cX7_write : ByteArray := prog_1_method_33_code
abbrev yX7_write : MethodName := ⟨"NextButOne", "write", "(IIJ)J"⟩
abbrev cX7_copy : ByteArray := prog_1_method_34_code
abbrev yX7_copy : MethodName := ⟨"NextButOne", "copy", "(IIIII)I"⟩
abbrev cX7_lays : ByteArray := prog_1_method_35_code
abbrev yX7_lays : MethodName := ⟨"NextButOne", "lays", "(II)I"⟩
abbrev cX7_read : ByteArray := prog_1_method_36_code
abbrev yX7_read : MethodName := ⟨"NextButOne", "read", "(I)I"⟩
abbrev cX7_image : ByteArray := prog_1_method_37_code
abbrev yX7_image : MethodName := ⟨"NextButOne", "image", "()I"⟩
abbrev cX7_undo : ByteArray := prog_1_method_38_code
abbrev yX7_undo : MethodName := ⟨"NextButOne", "undo", "()I"⟩
abbrev cX7_tear : ByteArray := prog_1_method_39_code
abbrev yX7_tear : MethodName := ⟨"NextButOne", "tear", "()I"⟩
abbrev cX7_count : ByteArray := prog_1_method_40_code
abbrev yX7_count : MethodName := ⟨"NextButOne", "count", "(I)I"⟩
abbrev cX7_status : ByteArray := prog_1_method_41_code
abbrev yX7_status : MethodName := ⟨"NextButOne", "status", "(I)I"⟩
abbrev cX7_finding : ByteArray := prog_1_method_42_code
abbrev yX7_finding : MethodName := ⟨"NextButOne", "finding", "(I)I"⟩
abbrev cX7_within : ByteArray := prog_1_method_43_code
abbrev yX7_within : MethodName := ⟨"NextButOne", "within", "(III)Z"⟩
abbrev cX7_isIn : ByteArray := prog_1_method_44_code
abbrev yX7_isIn : MethodName := ⟨"NextButOne", "isIn", "(II)Z"⟩
abbrev cX7_isSort : ByteArray := prog_1_method_45_code
abbrev yX7_isSort : MethodName := ⟨"NextButOne", "isSort", "(I)Z"⟩
abbrev cX7_isChairs : ByteArray := prog_1_method_46_code
abbrev yX7_isChairs : MethodName := ⟨"NextButOne", "isChairs", "(I)Z"⟩
abbrev cX7_isSheet : ByteArray := prog_1_method_47_code
abbrev yX7_isSheet : MethodName := ⟨"NextButOne", "isSheet", "(I)Z"⟩
abbrev cX7_isOne : ByteArray := prog_1_method_48_code
abbrev yX7_isOne : MethodName := ⟨"NextButOne", "isOne", "(I)Z"⟩
abbrev cX7_areTwo : ByteArray := prog_1_method_49_code
abbrev yX7_areTwo : MethodName := ⟨"NextButOne", "areTwo", "(II)Z"⟩
abbrev cX7_isPlace : ByteArray := prog_1_method_50_code
abbrev yX7_isPlace : MethodName := ⟨"NextButOne", "isPlace", "(I)Z"⟩
abbrev cX7_mayStandInLine : ByteArray := prog_1_method_51_code
abbrev yX7_mayStandInLine : MethodName := ⟨"NextButOne", "mayStandInLine", "(I)Z"⟩
abbrev cX7_isTrait : ByteArray := prog_1_method_52_code
abbrev yX7_isTrait : MethodName := ⟨"NextButOne", "isTrait", "(II)Z"⟩
abbrev cX7_isUnder : ByteArray := prog_1_method_53_code
abbrev yX7_isUnder : MethodName := ⟨"NextButOne", "isUnder", "(II)Z"⟩
abbrev cX8_init : ByteArray := prog_10_method_1_code
abbrev yX8_init : MethodName := ⟨"NextButOneModel", "<init>", "()V"⟩
abbrev cX8_isIn : ByteArray := prog_10_method_2_code
abbrev yX8_isIn : MethodName := ⟨"NextButOneModel", "isIn", "(JJJ)Z"⟩
abbrev cX8_finds : ByteArray := prog_10_method_3_code
abbrev yX8_finds : MethodName := ⟨"NextButOneModel", "finds", "(I)I"⟩
abbrev cX8_becomes : ByteArray := prog_10_method_4_code
abbrev yX8_becomes : MethodName := ⟨"NextButOneModel", "becomes", "(II)I"⟩
abbrev cX8_has0 : ByteArray := prog_10_method_5_code
abbrev yX8_has0 : MethodName := ⟨"NextButOneModel", "has0", "(II)I"⟩
abbrev cX8_isPerson : ByteArray := prog_10_method_6_code
abbrev yX8_isPerson : MethodName := ⟨"NextButOneModel", "isPerson", "(I)Z"⟩
abbrev cX8_isAlive : ByteArray := prog_10_method_7_code
abbrev yX8_isAlive : MethodName := ⟨"NextButOneModel", "isAlive", "(I)Z"⟩
abbrev cX8_likesOf : ByteArray := prog_10_method_8_code
abbrev yX8_likesOf : MethodName := ⟨"NextButOneModel", "likesOf", "(II)I"⟩
abbrev cX8_worthOf : ByteArray := prog_10_method_9_code
abbrev yX8_worthOf : MethodName := ⟨"NextButOneModel", "worthOf", "(II)I"⟩
abbrev cX8_person : ByteArray := prog_10_method_10_code
abbrev yX8_person : MethodName := ⟨"NextButOneModel", "person", "(III)I"⟩
abbrev cX8_placeOf : ByteArray := prog_10_method_11_code
abbrev yX8_placeOf : MethodName := ⟨"NextButOneModel", "placeOf", "(I)I"⟩
abbrev cX8_firstNamed : ByteArray := prog_10_method_12_code
abbrev yX8_firstNamed : MethodName := ⟨"NextButOneModel", "firstNamed", "()I"⟩
abbrev cX8_mayName : ByteArray := prog_10_method_13_code
abbrev yX8_mayName : MethodName := ⟨"NextButOneModel", "mayName", "(II)Z"⟩
abbrev cX8_bestBy : ByteArray := prog_10_method_14_code
abbrev yX8_bestBy : MethodName := ⟨"NextButOneModel", "bestBy", "(II)I"⟩
abbrev cX8_valueBy : ByteArray := prog_10_method_15_code
abbrev yX8_valueBy : MethodName := ⟨"NextButOneModel", "valueBy", "(III)I"⟩
abbrev cX8_would : ByteArray := prog_10_method_16_code
abbrev yX8_would : MethodName := ⟨"NextButOneModel", "would", "(I)I"⟩
abbrev cX8_of : ByteArray := prog_10_method_17_code
abbrev yX8_of : MethodName := ⟨"NextButOneModel", "of", "(II)I"⟩
abbrev cX8_isFit : ByteArray := prog_10_method_18_code
abbrev yX8_isFit : MethodName := ⟨"NextButOneModel", "isFit", "(II)Z"⟩
abbrev cX8_set : ByteArray := prog_10_method_19_code
abbrev yX8_set : MethodName := ⟨"NextButOneModel", "set", "(III)I"⟩
abbrev cX8_as : ByteArray := prog_10_method_20_code
abbrev yX8_as : MethodName := ⟨"NextButOneModel", "as", "(II)I"⟩
abbrev cX8_likes : ByteArray := prog_10_method_21_code
abbrev yX8_likes : MethodName := ⟨"NextButOneModel", "likes", "(III)I"⟩
abbrev cX8_worth : ByteArray := prog_10_method_22_code
abbrev yX8_worth : MethodName := ⟨"NextButOneModel", "worth", "(III)I"⟩
abbrev cX8_isRule : ByteArray := prog_10_method_23_code
abbrev yX8_isRule : MethodName := ⟨"NextButOneModel", "isRule", "(II)Z"⟩
abbrev cX8_cutsLine : ByteArray := prog_10_method_24_code
abbrev yX8_cutsLine : MethodName := ⟨"NextButOneModel", "cutsLine", "()V"⟩
abbrev cX8_rule : ByteArray := prog_10_method_25_code
abbrev yX8_rule : MethodName := ⟨"NextButOneModel", "rule", "(II)I"⟩
abbrev cX8_sit : ByteArray := prog_10_method_26_code
abbrev yX8_sit : MethodName := ⟨"NextButOneModel", "sit", "(I)I"⟩
abbrev cX8_line : ByteArray := prog_10_method_27_code
abbrev yX8_line : MethodName := ⟨"NextButOneModel", "line", "(II)I"⟩
abbrev cX8_may : ByteArray := prog_10_method_28_code
abbrev yX8_may : MethodName := ⟨"NextButOneModel", "may", "(I)I"⟩
abbrev cX8_comes : ByteArray := prog_10_method_29_code
abbrev yX8_comes : MethodName := ⟨"NextButOneModel", "comes", "()I"⟩
abbrev cX8_come : ByteArray := prog_10_method_30_code
abbrev yX8_come : MethodName := ⟨"NextButOneModel", "come", "()I"⟩
abbrev cX8_followsBy : ByteArray := prog_10_method_31_code
abbrev yX8_followsBy : MethodName := ⟨"NextButOneModel", "followsBy", "(II)I"⟩
abbrev cX8_follows : ByteArray := prog_10_method_32_code
abbrev yX8_follows : MethodName := ⟨"NextButOneModel", "follows", "(II)I"⟩
abbrev cX8_year : ByteArray := prog_10_method_33_code
abbrev yX8_year : MethodName := ⟨"NextButOneModel", "year", "()Z"⟩
abbrev cX8_dies : ByteArray := prog_10_method_34_code
abbrev yX8_dies : MethodName := ⟨"NextButOneModel", "dies", "(I)V"⟩
abbrev cX8_years : ByteArray := prog_10_method_35_code
abbrev yX8_years : MethodName := ⟨"NextButOneModel", "years", "(I)I"⟩
abbrev cX8_seed : ByteArray := prog_10_method_36_code
abbrev yX8_seed : MethodName := ⟨"NextButOneModel", "seed", "(I)I"⟩
abbrev cX8_now : ByteArray := prog_10_method_37_code
abbrev yX8_now : MethodName := ⟨"NextButOneModel", "now", "(I)I"⟩
abbrev cX8_laysBy : ByteArray := prog_10_method_38_code
abbrev yX8_laysBy : MethodName := ⟨"NextButOneModel", "laysBy", "()V"⟩
abbrev cX8_laysBack : ByteArray := prog_10_method_39_code
abbrev yX8_laysBack : MethodName := ⟨"NextButOneModel", "laysBack", "()V"⟩
abbrev cX8_isChairs : ByteArray := prog_10_method_40_code
abbrev yX8_isChairs : MethodName := ⟨"NextButOneModel", "isChairs", "(I)Z"⟩
abbrev cX8_ahead : ByteArray := prog_10_method_41_code
abbrev yX8_ahead : MethodName := ⟨"NextButOneModel", "ahead", "(I)I"⟩
abbrev cX8_asOne : ByteArray := prog_10_method_42_code
abbrev yX8_asOne : MethodName := ⟨"NextButOneModel", "asOne", "()I"⟩
abbrev cX8_findEver : ByteArray := prog_10_method_43_code
abbrev yX8_findEver : MethodName := ⟨"NextButOneModel", "findEver", "()Z"⟩
abbrev cX8_ever : ByteArray := prog_10_method_44_code
abbrev yX8_ever : MethodName := ⟨"NextButOneModel", "ever", "()I"⟩
abbrev cX8_turns : ByteArray := prog_10_method_45_code
abbrev yX8_turns : MethodName := ⟨"NextButOneModel", "turns", "(I)I"⟩
abbrev cX8_share : ByteArray := prog_10_method_46_code
abbrev yX8_share : MethodName := ⟨"NextButOneModel", "share", "(II)I"⟩
abbrev cX8_hasIn : ByteArray := prog_10_method_47_code
abbrev yX8_hasIn : MethodName := ⟨"NextButOneModel", "hasIn", "(II)I"⟩
abbrev cX8_has : ByteArray := prog_10_method_48_code
abbrev yX8_has : MethodName := ⟨"NextButOneModel", "has", "(II)I"⟩
abbrev cX8_but : ByteArray := prog_10_method_49_code
abbrev yX8_but : MethodName := ⟨"NextButOneModel", "but", "(III)I"⟩
abbrev cX8_vote : ByteArray := prog_10_method_50_code
abbrev yX8_vote : MethodName := ⟨"NextButOneModel", "vote", "()I"⟩
abbrev cX8_keptBy : ByteArray := prog_10_method_51_code
abbrev yX8_keptBy : MethodName := ⟨"NextButOneModel", "keptBy", "(III)I"⟩
abbrev cX8_kept : ByteArray := prog_10_method_52_code
abbrev yX8_kept : MethodName := ⟨"NextButOneModel", "kept", "(III)I"⟩
abbrev cX8_pact : ByteArray := prog_10_method_53_code
abbrev yX8_pact : MethodName := ⟨"NextButOneModel", "pact", "(I)I"⟩
abbrev cX8_odds : ByteArray := prog_10_method_54_code
abbrev yX8_odds : MethodName := ⟨"NextButOneModel", "odds", "(II)I"⟩
abbrev cX8_feed : ByteArray := prog_10_method_55_code
abbrev yX8_feed : MethodName := ⟨"NextButOneModel", "feed", "(II)I"⟩
abbrev cX8_wipe : ByteArray := prog_10_method_56_code
abbrev yX8_wipe : MethodName := ⟨"NextButOneModel", "wipe", "()I"⟩
abbrev cX8_nameOf : ByteArray := prog_10_method_57_code
abbrev yX8_nameOf : MethodName := ⟨"NextButOneModel", "nameOf", "(I)I"⟩
abbrev cX8_binds : ByteArray := prog_10_method_58_code
abbrev yX8_binds : MethodName := ⟨"NextButOneModel", "binds", "(I)I"⟩
abbrev cX8_puts : ByteArray := prog_10_method_59_code
abbrev yX8_puts : MethodName := ⟨"NextButOneModel", "puts", "(I)V"⟩
abbrev cX8_waits : ByteArray := prog_10_method_60_code
abbrev yX8_waits : MethodName := ⟨"NextButOneModel", "waits", "(I)V"⟩
abbrev cX8_doneAhead : ByteArray := prog_10_method_61_code
abbrev yX8_doneAhead : MethodName := ⟨"NextButOneModel", "doneAhead", "()V"⟩
abbrev cX8_doneBy : ByteArray := prog_10_method_62_code
abbrev yX8_doneBy : MethodName := ⟨"NextButOneModel", "doneBy", "(I)V"⟩
abbrev cX8_isSignRead : ByteArray := prog_10_method_63_code
abbrev yX8_isSignRead : MethodName := ⟨"NextButOneModel", "isSignRead", "(I)Z"⟩
abbrev cX8_isOpenRead : ByteArray := prog_10_method_64_code
abbrev yX8_isOpenRead : MethodName := ⟨"NextButOneModel", "isOpenRead", "(I)Z"⟩
abbrev cX8_text : ByteArray := prog_10_method_65_code
abbrev yX8_text : MethodName := ⟨"NextButOneModel", "text", "()I"⟩
abbrev cX8_named : ByteArray := prog_10_method_66_code
abbrev yX8_named : MethodName := ⟨"NextButOneModel", "named", "(III)I"⟩
abbrev cX8_worked : ByteArray := prog_10_method_67_code
abbrev yX8_worked : MethodName := ⟨"NextButOneModel", "worked", "(III)I"⟩
abbrev cX8_givenBy : ByteArray := prog_10_method_68_code
abbrev yX8_givenBy : MethodName := ⟨"NextButOneModel", "givenBy", "(II)I"⟩
abbrev cX8_gives : ByteArray := prog_10_method_69_code
abbrev yX8_gives : MethodName := ⟨"NextButOneModel", "gives", "(II)I"⟩
abbrev cX8_untell : ByteArray := prog_10_method_70_code
abbrev yX8_untell : MethodName := ⟨"NextButOneModel", "untell", "()I"⟩
abbrev cX8_isSheet : ByteArray := prog_10_method_71_code
abbrev yX8_isSheet : MethodName := ⟨"NextButOneModel", "isSheet", "(I)Z"⟩
abbrev cX8_narrow : ByteArray := prog_10_method_72_code
abbrev yX8_narrow : MethodName := ⟨"NextButOneModel", "narrow", "(IJ)J"⟩
abbrev cX8_sheet : ByteArray := prog_10_method_73_code
abbrev yX8_sheet : MethodName := ⟨"NextButOneModel", "sheet", "(III)I"⟩
abbrev cX8_write : ByteArray := prog_10_method_74_code
abbrev yX8_write : MethodName := ⟨"NextButOneModel", "write", "(IIJ)J"⟩
abbrev cX8_copy : ByteArray := prog_10_method_75_code
abbrev yX8_copy : MethodName := ⟨"NextButOneModel", "copy", "(IIIII)I"⟩
abbrev cX8_lays : ByteArray := prog_10_method_76_code
abbrev yX8_lays : MethodName := ⟨"NextButOneModel", "lays", "(II)I"⟩
abbrev cX8_read : ByteArray := prog_10_method_77_code
abbrev yX8_read : MethodName := ⟨"NextButOneModel", "read", "(I)I"⟩
abbrev cX8_image : ByteArray := prog_10_method_78_code
abbrev yX8_image : MethodName := ⟨"NextButOneModel", "image", "()I"⟩
abbrev cX8_undo : ByteArray := prog_10_method_79_code
abbrev yX8_undo : MethodName := ⟨"NextButOneModel", "undo", "()I"⟩
abbrev cX8_tear : ByteArray := prog_10_method_80_code
abbrev yX8_tear : MethodName := ⟨"NextButOneModel", "tear", "()I"⟩
abbrev cX8_ofAll : ByteArray := prog_10_method_81_code
abbrev yX8_ofAll : MethodName := ⟨"NextButOneModel", "ofAll", "(I)I"⟩
abbrev cX8_namedMany : ByteArray := prog_10_method_82_code
abbrev yX8_namedMany : MethodName := ⟨"NextButOneModel", "namedMany", "()I"⟩
abbrev cX8_count : ByteArray := prog_10_method_83_code
abbrev yX8_count : MethodName := ⟨"NextButOneModel", "count", "(I)I"⟩
abbrev cX8_status : ByteArray := prog_10_method_84_code
abbrev yX8_status : MethodName := ⟨"NextButOneModel", "status", "(I)I"⟩
abbrev cJ11_isValidCodePoint_9a6ad : ByteArray := prog_11_method_11_code
abbrev yJ11_isValidCodePoint_9a6ad : MethodName := ⟨"java/lang/Character", "isValidCodePoint", "(I)Z"⟩
abbrev cJ11_highSurrogate_5068e : ByteArray := prog_11_method_28_code
abbrev yJ11_highSurrogate_5068e : MethodName := ⟨"java/lang/Character", "highSurrogate", "(I)C"⟩
abbrev cJ11_lowSurrogate_5068e : ByteArray := prog_11_method_29_code
abbrev yJ11_lowSurrogate_5068e : MethodName := ⟨"java/lang/Character", "lowSurrogate", "(I)C"⟩
abbrev cJ6_bitCount_0f7a4 : ByteArray := prog_12_method_49_code
abbrev yJ6_bitCount_0f7a4 : MethodName := ⟨"java/lang/Integer", "bitCount", "(I)I"⟩
abbrev cJ9_max_7cf53 : ByteArray := prog_13_method_65_code
abbrev yJ9_max_7cf53 : MethodName := ⟨"java/lang/Math", "max", "(II)I"⟩
abbrev cJ9_min_7cf53 : ByteArray := prog_13_method_69_code
abbrev yJ9_min_7cf53 : MethodName := ⟨"java/lang/Math", "min", "(II)I"⟩
abbrev cJ0_length_8abf5 : ByteArray := prog_14_method_54_code
abbrev yJ0_length_8abf5 : MethodName := ⟨"java/lang/String", "length", "()I"⟩
abbrev cJ0_indexOf_0f7a4 : ByteArray := prog_14_method_79_code
abbrev yJ0_indexOf_0f7a4 : MethodName := ⟨"java/lang/String", "indexOf", "(I)I"⟩
abbrev cJ0_indexOf_7cf53 : ByteArray := prog_14_method_80_code
abbrev yJ0_indexOf_7cf53 : MethodName := ⟨"java/lang/String", "indexOf", "(II)I"⟩
abbrev cJ0_coder_7d493 : ByteArray := prog_14_method_152_code
abbrev yJ0_coder_7d493 : MethodName := ⟨"java/lang/String", "coder", "()B"⟩
abbrev cJ0_isLatin1_aae02 : ByteArray := prog_14_method_154_code
abbrev yJ0_isLatin1_aae02 : MethodName := ⟨"java/lang/String", "isLatin1", "()Z"⟩
abbrev cJ0_checkBoundsBeginEnd_23922 : ByteArray := prog_14_method_158_code
abbrev yJ0_checkBoundsBeginEnd_23922 : MethodName := ⟨"java/lang/String", "checkBoundsBeginEnd", "(III)V"⟩
abbrev cJ1_canEncode_9a6ad : ByteArray := prog_15_method_4_code
abbrev yJ1_canEncode_9a6ad : MethodName := ⟨"java/lang/StringLatin1", "canEncode", "(I)Z"⟩
abbrev cJ1_indexOf_4cfef : ByteArray := prog_15_method_22_code
abbrev yJ1_indexOf_4cfef : MethodName := ⟨"java/lang/StringLatin1", "indexOf", "([BIII)I"⟩
abbrev cJ1_indexOfChar_4cfef : ByteArray := prog_15_method_23_code
abbrev yJ1_indexOfChar_4cfef : MethodName := ⟨"java/lang/StringLatin1", "indexOfChar", "([BIII)I"⟩
abbrev cJ2_getChar_3b067 : ByteArray := prog_16_method_5_code
abbrev yJ2_getChar_3b067 : MethodName := ⟨"java/lang/StringUTF16", "getChar", "([BI)C"⟩
abbrev cJ2_length_9d52b : ByteArray := prog_16_method_6_code
abbrev yJ2_length_9d52b : MethodName := ⟨"java/lang/StringUTF16", "length", "([B)I"⟩
abbrev cJ2_indexOf_4cfef : ByteArray := prog_16_method_40_code
abbrev yJ2_indexOf_4cfef : MethodName := ⟨"java/lang/StringUTF16", "indexOf", "([BIII)I"⟩
abbrev cJ2_indexOfChar_4cfef : ByteArray := prog_16_method_47_code
abbrev yJ2_indexOfChar_4cfef : MethodName := ⟨"java/lang/StringUTF16", "indexOfChar", "([BIII)I"⟩
abbrev cJ2_indexOfCharUnsafe_4cfef : ByteArray := prog_16_method_48_code
abbrev yJ2_indexOfCharUnsafe_4cfef : MethodName := ⟨"java/lang/StringUTF16", "indexOfCharUnsafe", "([BIII)I"⟩
abbrev cJ2_indexOfSupplementary_4cfef : ByteArray := prog_16_method_49_code
abbrev yJ2_indexOfSupplementary_4cfef : MethodName := ⟨"java/lang/StringUTF16", "indexOfSupplementary", "([BIII)I"⟩
abbrev cJ2_checkBoundsBeginEnd_d044e : ByteArray := prog_16_method_93_code
abbrev yJ2_checkBoundsBeginEnd_d044e : MethodName := ⟨"java/lang/StringUTF16", "checkBoundsBeginEnd", "(II[B)V"⟩
abbrev cJ7_rangeCheck_23922 : ByteArray := prog_18_method_30_code
abbrev yJ7_rangeCheck_23922 : MethodName := ⟨"java/util/Arrays", "rangeCheck", "(III)V"⟩
abbrev cJ7_fill_d0a16 : ByteArray := prog_18_method_101_code
abbrev yJ7_fill_d0a16 : MethodName := ⟨"java/util/Arrays", "fill", "([JJ)V"⟩
abbrev cJ7_fill_53178 : ByteArray := prog_18_method_103_code
abbrev yJ7_fill_53178 : MethodName := ⟨"java/util/Arrays", "fill", "([II)V"⟩
abbrev cJ7_fill_fda19 : ByteArray := prog_18_method_104_code
abbrev yJ7_fill_fda19 : MethodName := ⟨"java/util/Arrays", "fill", "([IIII)V"⟩
abbrev cJ3_checkFromToIndex_8c36e : ByteArray := prog_19_method_12_code
abbrev yJ3_checkFromToIndex_8c36e : MethodName := ⟨"jdk/internal/util/Preconditions", "checkFromToIndex", "(IIILjava/util/function/BiFunction;)I"⟩
set_option maxRecDepth 100000 in
theorem q53 : Cond.initialized "NextButOneLaw" ∈ uw := mem_uw 53 (by decide +kernel) rfl
set_option maxRecDepth 100000 in
theorem q54 : Cond.initialized "NextButOne" ∈ uw := mem_uw 54 (by decide +kernel) rfl
set_option maxRecDepth 100000 in
theorem q55 : Cond.initialized "NextButOne$Realm" ∈ uw := mem_uw 55 (by decide +kernel) rfl
set_option maxRecDepth 100000 in
theorem q56 : Cond.initialized "NextButOne$Folk" ∈ uw := mem_uw 56 (by decide +kernel) rfl
set_option maxRecDepth 100000 in
theorem q57 : Cond.initialized "NextButOne$Script" ∈ uw := mem_uw 57 (by decide +kernel) rfl
set_option maxRecDepth 100000 in
theorem q58 : Cond.initialized "NextButOne$Seat" ∈ uw := mem_uw 58 (by decide +kernel) rfl
set_option maxRecDepth 100000 in
theorem q59 : Cond.initialized "NextButOne$Chairs" ∈ uw := mem_uw 59 (by decide +kernel) rfl
set_option maxRecDepth 100000 in
theorem q60 : Cond.initialized "NextButOne$Tape" ∈ uw := mem_uw 60 (by decide +kernel) rfl
set_option maxRecDepth 100000 in
theorem q61 : Cond.initialized "NextButOne$Sheet" ∈ uw := mem_uw 61 (by decide +kernel) rfl
set_option maxRecDepth 100000 in
theorem q62 : Cond.initialized "NextButOneModel" ∈ uw := mem_uw 62 (by decide +kernel) rfl
set_option maxRecDepth 100000 in
theorem q63 : Cond.initialized "java/lang/System" ∈ uw := mem_uw 63 (by decide +kernel) rfl
set_option maxRecDepth 100000 in
theorem q64 : Cond.initialized "java/util/Arrays" ∈ uw := mem_uw 64 (by decide +kernel) rfl
set_option maxRecDepth 100000 in
theorem q65 : Cond.initialized "java/lang/Integer" ∈ uw := mem_uw 65 (by decide +kernel) rfl
set_option maxRecDepth 100000 in
theorem q66 : Cond.initialized "java/lang/String" ∈ uw := mem_uw 66 (by decide +kernel) rfl
set_option maxRecDepth 100000 in
theorem q67 : Cond.initialized "java/lang/StringLatin1" ∈ uw := mem_uw 67 (by decide +kernel) rfl
set_option maxRecDepth 100000 in
theorem q68 : Cond.initialized "java/lang/Math" ∈ uw := mem_uw 68 (by decide +kernel) rfl
set_option maxRecDepth 100000 in
theorem q69 : Cond.initialized "java/lang/StringUTF16" ∈ uw := mem_uw 69 (by decide +kernel) rfl
set_option maxRecDepth 100000 in
theorem q70 : Cond.initialized "jdk/internal/util/Preconditions" ∈ uw := mem_uw 70 (by decide +kernel) rfl
set_option maxRecDepth 100000 in
theorem q71 : Cond.initialized "java/lang/Character" ∈ uw := mem_uw 71 (by decide +kernel) rfl
set_option maxRecDepth 100000 in
theorem q72 : Cond.classLink "NextButOneLaw" 7 "NextButOne" ∈ uw := mem_uw 72 (by decide +kernel) rfl
set_option maxRecDepth 100000 in
theorem q73 : Cond.instantiable "NextButOne" 8 ∈ uw := mem_uw 73 (by decide +kernel) rfl
set_option maxRecDepth 100000 in
theorem q74 : Cond.methodLink "NextButOneLaw" 9 yX7_init ∈ uw := mem_uw 74 (by decide +kernel) rfl
set_option maxRecDepth 100000 in
theorem q75 : Cond.instanceMethod yX7_init ∈ uw := mem_uw 75 (by decide +kernel) rfl
set_option maxRecDepth 100000 in
theorem q76 : Cond.code yX7_init cX7_init 2 none ∈ uw := mem_uw 76 rfl rfl
set_option maxRecDepth 100000 in
theorem q77 : Cond.methodLink "NextButOne" 1 (⟨"java/lang/Object", "<init>", "()V"⟩ : MethodName) ∈ uw := mem_uw 77 (by decide +kernel) rfl
set_option maxRecDepth 100000 in
theorem q78 : Cond.instanceMethod (⟨"java/lang/Object", "<init>", "()V"⟩ : MethodName) ∈ uw := mem_uw 78 (by decide +kernel) rfl
set_option maxRecDepth 100000 in
theorem q80 : Cond.classLink "NextButOne" 7 "NextButOne$Realm" ∈ uw := mem_uw 80 (by decide +kernel) rfl
set_option maxRecDepth 100000 in
theorem q81 : Cond.instantiable "NextButOne$Realm" 4 ∈ uw := mem_uw 81 (by decide +kernel) rfl
set_option maxRecDepth 100000 in
theorem q83 : Cond.instanceMethod yX2_init ∈ uw := mem_uw 83 (by decide +kernel) rfl
set_option maxRecDepth 100000 in
theorem q84 : Cond.code yX2_init cX2_init 1 none ∈ uw := mem_uw 84 rfl rfl
set_option maxRecDepth 100000 in
theorem q85 : Cond.methodLink "NextButOne$Realm" 1 (⟨"java/lang/Object", "<init>", "()V"⟩ : MethodName) ∈ uw := mem_uw 85 (by decide +kernel) rfl
set_option maxRecDepth 100000 in
theorem q86 : Cond.classLink "NextButOne$Realm" 7 "NextButOne$Folk" ∈ uw := mem_uw 86 (by decide +kernel) rfl
set_option maxRecDepth 100000 in
theorem q87 : Cond.instantiable "NextButOne$Folk" 9 ∈ uw := mem_uw 87 (by decide +kernel) rfl
set_option maxRecDepth 100000 in
theorem q89 : Cond.instanceMethod yX1_init ∈ uw := mem_uw 89 (by decide +kernel) rfl
set_option maxRecDepth 100000 in
theorem q90 : Cond.code yX1_init cX1_init 1 none ∈ uw := mem_uw 90 rfl rfl
set_option maxRecDepth 100000 in
theorem q91 : Cond.methodLink "NextButOne$Folk" 3 (⟨"java/lang/Object", "<init>", "()V"⟩ : MethodName) ∈ uw := mem_uw 91 (by decide +kernel) rfl
set_option maxRecDepth 100000 in
theorem q92 : Cond.fieldLink "NextButOne$Folk" 9 "NextButOne$Folk" "people" "I" ∈ uw := mem_uw 92 (by decide +kernel) rfl
set_option maxRecDepth 100000 in
theorem q93 : Cond.fieldLink "NextButOne" 70 "NextButOne$Folk" "people" "I" ∈ uw := mem_uw 93 (by decide +kernel) rfl
set_option maxRecDepth 100000 in
theorem q94 : Cond.fieldLink "NextButOne$Seat" 62 "NextButOne$Folk" "people" "I" ∈ uw := mem_uw 94 (by decide +kernel) rfl
set_option maxRecDepth 100000 in
theorem q95 : Cond.fieldLink "NextButOne$Folk" 15 "NextButOne$Folk" "kind" "[I" ∈ uw := mem_uw 95 (by decide +kernel) rfl
set_option maxRecDepth 100000 in
theorem q96 : Cond.fieldLink "NextButOne" 111 "NextButOne$Folk" "kind" "[I" ∈ uw := mem_uw 96 (by decide +kernel) rfl
set_option maxRecDepth 100000 in
theorem q97 : Cond.fieldLink "NextButOne$Seat" 105 "NextButOne$Folk" "kind" "[I" ∈ uw := mem_uw 97 (by decide +kernel) rfl
set_option maxRecDepth 100000 in
theorem q98 : Cond.fieldLink "NextButOne$Folk" 19 "NextButOne$Folk" "age" "[I" ∈ uw := mem_uw 98 (by decide +kernel) rfl
set_option maxRecDepth 100000 in
theorem q99 : Cond.fieldLink "NextButOne$Seat" 117 "NextButOne$Folk" "age" "[I" ∈ uw := mem_uw 99 (by decide +kernel) rfl
set_option maxRecDepth 100000 in
theorem q100 : Cond.fieldLink "NextButOne$Folk" 22 "NextButOne$Folk" "sort" "[I" ∈ uw := mem_uw 100 (by decide +kernel) rfl
set_option maxRecDepth 100000 in
theorem q101 : Cond.fieldLink "NextButOne$Chairs" 72 "NextButOne$Folk" "sort" "[I" ∈ uw := mem_uw 101 (by decide +kernel) rfl
set_option maxRecDepth 100000 in
theorem q102 : Cond.fieldLink "NextButOne$Seat" 92 "NextButOne$Folk" "sort" "[I" ∈ uw := mem_uw 102 (by decide +kernel) rfl
set_option maxRecDepth 100000 in
theorem q103 : Cond.fieldLink "NextButOne$Folk" 25 "NextButOne$Folk" "kin" "[I" ∈ uw := mem_uw 103 (by decide +kernel) rfl
set_option maxRecDepth 100000 in
theorem q104 : Cond.fieldLink "NextButOne$Seat" 74 "NextButOne$Folk" "kin" "[I" ∈ uw := mem_uw 104 (by decide +kernel) rfl
set_option maxRecDepth 100000 in
theorem q105 : Cond.fieldLink "NextButOne$Folk" 28 "NextButOne$Folk" "dead" "I" ∈ uw := mem_uw 105 (by decide +kernel) rfl
set_option maxRecDepth 100000 in
theorem q106 : Cond.fieldLink "NextButOne$Folk" 31 "NextButOne$Folk" "liking" "[I" ∈ uw := mem_uw 106 (by decide +kernel) rfl
set_option maxRecDepth 100000 in
theorem q107 : Cond.fieldLink "NextButOne" 121 "NextButOne$Folk" "liking" "[I" ∈ uw := mem_uw 107 (by decide +kernel) rfl
set_option maxRecDepth 100000 in
theorem q108 : Cond.fieldLink "NextButOne$Seat" 114 "NextButOne$Folk" "liking" "[I" ∈ uw := mem_uw 108 (by decide +kernel) rfl
set_option maxRecDepth 100000 in
theorem q109 : Cond.fieldLink "NextButOne$Folk" 34 "NextButOne$Folk" "value" "[I" ∈ uw := mem_uw 109 (by decide +kernel) rfl
set_option maxRecDepth 100000 in
theorem q110 : Cond.fieldLink "NextButOne$Chairs" 77 "NextButOne$Folk" "value" "[I" ∈ uw := mem_uw 110 (by decide +kernel) rfl
set_option maxRecDepth 100000 in
theorem q111 : Cond.fieldLink "NextButOne" 124 "NextButOne$Folk" "value" "[I" ∈ uw := mem_uw 111 (by decide +kernel) rfl
set_option maxRecDepth 100000 in
theorem q112 : Cond.fieldLink "NextButOne$Folk" 37 "NextButOne$Folk" "z" "I" ∈ uw := mem_uw 112 (by decide +kernel) rfl
set_option maxRecDepth 100000 in
theorem q113 : Cond.fieldLink "NextButOne" 172 "NextButOne$Folk" "z" "I" ∈ uw := mem_uw 113 (by decide +kernel) rfl
set_option maxRecDepth 100000 in
theorem q132 : Cond.superclass "NextButOne$Folk" "java/lang/Object" ∈ uw := mem_uw 132 (by decide +kernel) rfl
set_option maxRecDepth 100000 in
theorem q133 : Cond.arrayClass FieldType.int ∈ uw := mem_uw 133 (by decide +kernel) rfl
set_option maxRecDepth 100000 in
theorem q134 : Cond.classLink "NextButOne$Realm" 16 "NextButOne$Script" ∈ uw := mem_uw 134 (by decide +kernel) rfl
set_option maxRecDepth 100000 in
theorem q135 : Cond.instantiable "NextButOne$Script" 3 ∈ uw := mem_uw 135 (by decide +kernel) rfl
set_option maxRecDepth 100000 in
theorem q137 : Cond.instanceMethod yX3_init ∈ uw := mem_uw 137 (by decide +kernel) rfl
set_option maxRecDepth 100000 in
theorem q138 : Cond.code yX3_init cX3_init 1 none ∈ uw := mem_uw 138 rfl rfl
set_option maxRecDepth 100000 in
theorem q139 : Cond.methodLink "NextButOne$Script" 3 (⟨"java/lang/Object", "<init>", "()V"⟩ : MethodName) ∈ uw := mem_uw 139 (by decide +kernel) rfl
set_option maxRecDepth 100000 in
theorem q140 : Cond.fieldLink "NextButOne$Script" 9 "NextButOne$Script" "codes" "[I" ∈ uw := mem_uw 140 (by decide +kernel) rfl
set_option maxRecDepth 100000 in
theorem q141 : Cond.fieldLink "NextButOne$Script" 15 "NextButOne$Script" "stack" "[I" ∈ uw := mem_uw 141 (by decide +kernel) rfl
set_option maxRecDepth 100000 in
theorem q142 : Cond.fieldLink "NextButOne$Script" 18 "NextButOne$Script" "length" "I" ∈ uw := mem_uw 142 (by decide +kernel) rfl
set_option maxRecDepth 100000 in
theorem q143 : Cond.fieldLink "NextButOne$Tape" 33 "NextButOne$Script" "length" "I" ∈ uw := mem_uw 143 (by decide +kernel) rfl
set_option maxRecDepth 100000 in
theorem q144 : Cond.fieldLink "NextButOne" 262 "NextButOne$Script" "length" "I" ∈ uw := mem_uw 144 (by decide +kernel) rfl
set_option maxRecDepth 100000 in
theorem q151 : Cond.superclass "NextButOne$Script" "java/lang/Object" ∈ uw := mem_uw 151 (by decide +kernel) rfl
set_option maxRecDepth 100000 in
theorem q152 : Cond.classLink "NextButOne$Realm" 23 "NextButOne$Seat" ∈ uw := mem_uw 152 (by decide +kernel) rfl
set_option maxRecDepth 100000 in
theorem q153 : Cond.instantiable "NextButOne$Seat" 10 ∈ uw := mem_uw 153 (by decide +kernel) rfl
set_option maxRecDepth 100000 in
theorem q154 : Cond.methodLink "NextButOne$Realm" 25 yX4_init ∈ uw := mem_uw 154 (by decide +kernel) rfl
set_option maxRecDepth 100000 in
theorem q155 : Cond.instanceMethod yX4_init ∈ uw := mem_uw 155 (by decide +kernel) rfl
set_option maxRecDepth 100000 in
theorem q156 : Cond.code yX4_init cX4_init 4 none ∈ uw := mem_uw 156 rfl rfl
set_option maxRecDepth 100000 in
theorem q157 : Cond.methodLink "NextButOne$Seat" 3 (⟨"java/lang/Object", "<init>", "()V"⟩ : MethodName) ∈ uw := mem_uw 157 (by decide +kernel) rfl
set_option maxRecDepth 100000 in
theorem q158 : Cond.fieldLink "NextButOne$Seat" 34 "NextButOne$Seat" "folk" "LNextButOne$Folk;" ∈ uw := mem_uw 158 (by decide +kernel) rfl
set_option maxRecDepth 100000 in
theorem q159 : Cond.fieldLink "NextButOne$Seat" 38 "NextButOne$Seat" "script" "LNextButOne$Script;" ∈ uw := mem_uw 159 (by decide +kernel) rfl
set_option maxRecDepth 100000 in
theorem q160 : Cond.fieldLink "NextButOne$Seat" 42 "NextButOne$Seat" "trial" "LNextButOne$Seat;" ∈ uw := mem_uw 160 (by decide +kernel) rfl
set_option maxRecDepth 100000 in
theorem q161 : Cond.fieldLink "NextButOne$Seat" 9 "NextButOne$Seat" "rules" "[I" ∈ uw := mem_uw 161 (by decide +kernel) rfl
set_option maxRecDepth 100000 in
theorem q162 : Cond.fieldLink "NextButOne" 133 "NextButOne$Seat" "rules" "[I" ∈ uw := mem_uw 162 (by decide +kernel) rfl
set_option maxRecDepth 100000 in
theorem q163 : Cond.fieldLink "NextButOne$Seat" 15 "NextButOne$Seat" "line" "[I" ∈ uw := mem_uw 163 (by decide +kernel) rfl
set_option maxRecDepth 100000 in
theorem q164 : Cond.fieldLink "NextButOne" 153 "NextButOne$Seat" "line" "[I" ∈ uw := mem_uw 164 (by decide +kernel) rfl
set_option maxRecDepth 100000 in
theorem q165 : Cond.fieldLink "NextButOne$Seat" 18 "NextButOne$Seat" "ruled" "[I" ∈ uw := mem_uw 165 (by decide +kernel) rfl
set_option maxRecDepth 100000 in
theorem q166 : Cond.fieldLink "NextButOne" 88 "NextButOne$Seat" "ruled" "[I" ∈ uw := mem_uw 166 (by decide +kernel) rfl
set_option maxRecDepth 100000 in
theorem q167 : Cond.fieldLink "NextButOne$Seat" 21 "NextButOne$Seat" "sits" "I" ∈ uw := mem_uw 167 (by decide +kernel) rfl
set_option maxRecDepth 100000 in
theorem q168 : Cond.fieldLink "NextButOne" 141 "NextButOne$Seat" "sits" "I" ∈ uw := mem_uw 168 (by decide +kernel) rfl
set_option maxRecDepth 100000 in
theorem q169 : Cond.fieldLink "NextButOne$Seat" 25 "NextButOne$Seat" "reign" "I" ∈ uw := mem_uw 169 (by decide +kernel) rfl
set_option maxRecDepth 100000 in
theorem q170 : Cond.fieldLink "NextButOne" 144 "NextButOne$Seat" "reign" "I" ∈ uw := mem_uw 170 (by decide +kernel) rfl
set_option maxRecDepth 100000 in
theorem q171 : Cond.fieldLink "NextButOne$Seat" 28 "NextButOne$Seat" "keeper" "I" ∈ uw := mem_uw 171 (by decide +kernel) rfl
set_option maxRecDepth 100000 in
theorem q172 : Cond.fieldLink "NextButOne$Seat" 31 "NextButOne$Seat" "otherKeeper" "I" ∈ uw := mem_uw 172 (by decide +kernel) rfl
set_option maxRecDepth 100000 in
theorem q193 : Cond.superclass "NextButOne$Seat" "java/lang/Object" ∈ uw := mem_uw 193 (by decide +kernel) rfl
set_option maxRecDepth 100000 in
theorem q194 : Cond.fieldLink "NextButOne$Realm" 10 "NextButOne$Realm" "folk" "LNextButOne$Folk;" ∈ uw := mem_uw 194 (by decide +kernel) rfl
set_option maxRecDepth 100000 in
theorem q195 : Cond.fieldLink "NextButOne$Chairs" 37 "NextButOne$Realm" "folk" "LNextButOne$Folk;" ∈ uw := mem_uw 195 (by decide +kernel) rfl
set_option maxRecDepth 100000 in
theorem q196 : Cond.fieldLink "NextButOne" 66 "NextButOne$Realm" "folk" "LNextButOne$Folk;" ∈ uw := mem_uw 196 (by decide +kernel) rfl
set_option maxRecDepth 100000 in
theorem q197 : Cond.fieldLink "NextButOne$Realm" 19 "NextButOne$Realm" "script" "LNextButOne$Script;" ∈ uw := mem_uw 197 (by decide +kernel) rfl
set_option maxRecDepth 100000 in
theorem q198 : Cond.fieldLink "NextButOne$Chairs" 43 "NextButOne$Realm" "script" "LNextButOne$Script;" ∈ uw := mem_uw 198 (by decide +kernel) rfl
set_option maxRecDepth 100000 in
theorem q199 : Cond.fieldLink "NextButOne" 243 "NextButOne$Realm" "script" "LNextButOne$Script;" ∈ uw := mem_uw 199 (by decide +kernel) rfl
set_option maxRecDepth 100000 in
theorem q200 : Cond.fieldLink "NextButOne$Realm" 28 "NextButOne$Realm" "trial" "LNextButOne$Seat;" ∈ uw := mem_uw 200 (by decide +kernel) rfl
set_option maxRecDepth 100000 in
theorem q201 : Cond.fieldLink "NextButOne$Chairs" 47 "NextButOne$Realm" "trial" "LNextButOne$Seat;" ∈ uw := mem_uw 201 (by decide +kernel) rfl
set_option maxRecDepth 100000 in
theorem q202 : Cond.fieldLink "NextButOne$Realm" 32 "NextButOne$Realm" "seat" "LNextButOne$Seat;" ∈ uw := mem_uw 202 (by decide +kernel) rfl
set_option maxRecDepth 100000 in
theorem q203 : Cond.fieldLink "NextButOne$Chairs" 55 "NextButOne$Realm" "seat" "LNextButOne$Seat;" ∈ uw := mem_uw 203 (by decide +kernel) rfl
set_option maxRecDepth 100000 in
theorem q204 : Cond.fieldLink "NextButOne" 84 "NextButOne$Realm" "seat" "LNextButOne$Seat;" ∈ uw := mem_uw 204 (by decide +kernel) rfl
set_option maxRecDepth 100000 in
theorem q213 : Cond.superclass "NextButOne$Realm" "java/lang/Object" ∈ uw := mem_uw 213 (by decide +kernel) rfl
set_option maxRecDepth 100000 in
theorem q214 : Cond.classLink "NextButOne" 22 "NextButOne$Chairs" ∈ uw := mem_uw 214 (by decide +kernel) rfl
set_option maxRecDepth 100000 in
theorem q215 : Cond.instantiable "NextButOne$Chairs" 8 ∈ uw := mem_uw 215 (by decide +kernel) rfl
set_option maxRecDepth 100000 in
theorem q216 : Cond.methodLink "NextButOne" 24 yX0_init ∈ uw := mem_uw 216 (by decide +kernel) rfl
set_option maxRecDepth 100000 in
theorem q217 : Cond.instanceMethod yX0_init ∈ uw := mem_uw 217 (by decide +kernel) rfl
set_option maxRecDepth 100000 in
theorem q218 : Cond.code yX0_init cX0_init 2 none ∈ uw := mem_uw 218 rfl rfl
set_option maxRecDepth 100000 in
theorem q219 : Cond.methodLink "NextButOne$Chairs" 3 (⟨"java/lang/Object", "<init>", "()V"⟩ : MethodName) ∈ uw := mem_uw 219 (by decide +kernel) rfl
set_option maxRecDepth 100000 in
theorem q220 : Cond.classLink "NextButOne$Chairs" 35 "NextButOne$Seat" ∈ uw := mem_uw 220 (by decide +kernel) rfl
set_option maxRecDepth 100000 in
theorem q221 : Cond.methodLink "NextButOne$Chairs" 51 yX4_init ∈ uw := mem_uw 221 (by decide +kernel) rfl
set_option maxRecDepth 100000 in
theorem q222 : Cond.fieldLink "NextButOne$Chairs" 31 "NextButOne$Chairs" "realm" "LNextButOne$Realm;" ∈ uw := mem_uw 222 (by decide +kernel) rfl
set_option maxRecDepth 100000 in
theorem q223 : Cond.fieldLink "NextButOne$Chairs" 54 "NextButOne$Chairs" "trial" "LNextButOne$Seat;" ∈ uw := mem_uw 223 (by decide +kernel) rfl
set_option maxRecDepth 100000 in
theorem q224 : Cond.fieldLink "NextButOne" 181 "NextButOne$Chairs" "trial" "LNextButOne$Seat;" ∈ uw := mem_uw 224 (by decide +kernel) rfl
set_option maxRecDepth 100000 in
theorem q225 : Cond.fieldLink "NextButOne$Chairs" 9 "NextButOne$Chairs" "ofSort" "[I" ∈ uw := mem_uw 225 (by decide +kernel) rfl
set_option maxRecDepth 100000 in
theorem q226 : Cond.fieldLink "NextButOne" 202 "NextButOne$Chairs" "ofSort" "[I" ∈ uw := mem_uw 226 (by decide +kernel) rfl
set_option maxRecDepth 100000 in
theorem q227 : Cond.fieldLink "NextButOne$Chairs" 15 "NextButOne$Chairs" "without" "[I" ∈ uw := mem_uw 227 (by decide +kernel) rfl
set_option maxRecDepth 100000 in
theorem q228 : Cond.fieldLink "NextButOne$Chairs" 18 "NextButOne$Chairs" "codes" "[I" ∈ uw := mem_uw 228 (by decide +kernel) rfl
set_option maxRecDepth 100000 in
theorem q229 : Cond.fieldLink "NextButOne$Chairs" 21 "NextButOne$Chairs" "sitters" "[I" ∈ uw := mem_uw 229 (by decide +kernel) rfl
set_option maxRecDepth 100000 in
theorem q230 : Cond.fieldLink "NextButOne$Chairs" 24 "NextButOne$Chairs" "first" "I" ∈ uw := mem_uw 230 (by decide +kernel) rfl
set_option maxRecDepth 100000 in
theorem q231 : Cond.fieldLink "NextButOne" 192 "NextButOne$Chairs" "first" "I" ∈ uw := mem_uw 231 (by decide +kernel) rfl
set_option maxRecDepth 100000 in
theorem q232 : Cond.fieldLink "NextButOne$Chairs" 28 "NextButOne$Chairs" "again" "I" ∈ uw := mem_uw 232 (by decide +kernel) rfl
set_option maxRecDepth 100000 in
theorem q233 : Cond.fieldLink "NextButOne" 195 "NextButOne$Chairs" "again" "I" ∈ uw := mem_uw 233 (by decide +kernel) rfl
set_option maxRecDepth 100000 in
theorem q250 : Cond.superclass "NextButOne$Chairs" "java/lang/Object" ∈ uw := mem_uw 250 (by decide +kernel) rfl
set_option maxRecDepth 100000 in
theorem q251 : Cond.classLink "NextButOne" 31 "NextButOne$Tape" ∈ uw := mem_uw 251 (by decide +kernel) rfl
set_option maxRecDepth 100000 in
theorem q252 : Cond.instantiable "NextButOne$Tape" 5 ∈ uw := mem_uw 252 (by decide +kernel) rfl
set_option maxRecDepth 100000 in
theorem q254 : Cond.instanceMethod yX6_init ∈ uw := mem_uw 254 (by decide +kernel) rfl
set_option maxRecDepth 100000 in
theorem q255 : Cond.code yX6_init cX6_init 1 none ∈ uw := mem_uw 255 rfl rfl
set_option maxRecDepth 100000 in
theorem q256 : Cond.methodLink "NextButOne$Tape" 3 (⟨"java/lang/Object", "<init>", "()V"⟩ : MethodName) ∈ uw := mem_uw 256 (by decide +kernel) rfl
set_option maxRecDepth 100000 in
theorem q257 : Cond.classLink "NextButOne$Tape" 15 "NextButOne$Script" ∈ uw := mem_uw 257 (by decide +kernel) rfl
set_option maxRecDepth 100000 in
theorem q259 : Cond.fieldLink "NextButOne$Tape" 9 "NextButOne$Tape" "bytes" "[C" ∈ uw := mem_uw 259 (by decide +kernel) rfl
set_option maxRecDepth 100000 in
theorem q260 : Cond.fieldLink "NextButOne$Tape" 18 "NextButOne$Tape" "draft" "LNextButOne$Script;" ∈ uw := mem_uw 260 (by decide +kernel) rfl
set_option maxRecDepth 100000 in
theorem q261 : Cond.fieldLink "NextButOne" 247 "NextButOne$Tape" "draft" "LNextButOne$Script;" ∈ uw := mem_uw 261 (by decide +kernel) rfl
set_option maxRecDepth 100000 in
theorem q262 : Cond.fieldLink "NextButOne$Tape" 22 "NextButOne$Tape" "size" "I" ∈ uw := mem_uw 262 (by decide +kernel) rfl
set_option maxRecDepth 100000 in
theorem q263 : Cond.fieldLink "NextButOne" 231 "NextButOne$Tape" "size" "I" ∈ uw := mem_uw 263 (by decide +kernel) rfl
set_option maxRecDepth 100000 in
theorem q264 : Cond.fieldLink "NextButOne$Tape" 26 "NextButOne$Tape" "at" "I" ∈ uw := mem_uw 264 (by decide +kernel) rfl
set_option maxRecDepth 100000 in
theorem q265 : Cond.fieldLink "NextButOne" 240 "NextButOne$Tape" "at" "I" ∈ uw := mem_uw 265 (by decide +kernel) rfl
set_option maxRecDepth 100000 in
theorem q266 : Cond.fieldLink "NextButOne$Tape" 29 "NextButOne$Tape" "fault" "Z" ∈ uw := mem_uw 266 (by decide +kernel) rfl
set_option maxRecDepth 100000 in
theorem q277 : Cond.superclass "NextButOne$Tape" "java/lang/Object" ∈ uw := mem_uw 277 (by decide +kernel) rfl
set_option maxRecDepth 100000 in
theorem q278 : Cond.arrayClass FieldType.char ∈ uw := mem_uw 278 (by decide +kernel) rfl
set_option maxRecDepth 100000 in
theorem q279 : Cond.classLink "NextButOne" 38 "NextButOne$Sheet" ∈ uw := mem_uw 279 (by decide +kernel) rfl
set_option maxRecDepth 100000 in
theorem q281 : Cond.instantiable "NextButOne$Sheet" 3 ∈ uw := mem_uw 281 (by decide +kernel) rfl
set_option maxRecDepth 100000 in
theorem q283 : Cond.instanceMethod yX5_init ∈ uw := mem_uw 283 (by decide +kernel) rfl
set_option maxRecDepth 100000 in
theorem q284 : Cond.code yX5_init cX5_init 1 none ∈ uw := mem_uw 284 rfl rfl
set_option maxRecDepth 100000 in
theorem q285 : Cond.methodLink "NextButOne$Sheet" 3 (⟨"java/lang/Object", "<init>", "()V"⟩ : MethodName) ∈ uw := mem_uw 285 (by decide +kernel) rfl
set_option maxRecDepth 100000 in
theorem q286 : Cond.fieldLink "NextButOne$Sheet" 9 "NextButOne$Sheet" "bits" "I" ∈ uw := mem_uw 286 (by decide +kernel) rfl
set_option maxRecDepth 100000 in
theorem q287 : Cond.fieldLink "NextButOne" 285 "NextButOne$Sheet" "bits" "I" ∈ uw := mem_uw 287 (by decide +kernel) rfl
set_option maxRecDepth 100000 in
theorem q288 : Cond.fieldLink "NextButOne$Sheet" 15 "NextButOne$Sheet" "length" "I" ∈ uw := mem_uw 288 (by decide +kernel) rfl
set_option maxRecDepth 100000 in
theorem q289 : Cond.fieldLink "NextButOne" 272 "NextButOne$Sheet" "length" "I" ∈ uw := mem_uw 289 (by decide +kernel) rfl
set_option maxRecDepth 100000 in
theorem q290 : Cond.fieldLink "NextButOne$Sheet" 18 "NextButOne$Sheet" "numbers" "[J" ∈ uw := mem_uw 290 (by decide +kernel) rfl
set_option maxRecDepth 100000 in
theorem q291 : Cond.fieldLink "NextButOne" 277 "NextButOne$Sheet" "numbers" "[J" ∈ uw := mem_uw 291 (by decide +kernel) rfl
set_option maxRecDepth 100000 in
theorem q298 : Cond.superclass "NextButOne$Sheet" "java/lang/Object" ∈ uw := mem_uw 298 (by decide +kernel) rfl
set_option maxRecDepth 100000 in
theorem q299 : Cond.arrayClass FieldType.long ∈ uw := mem_uw 299 (by decide +kernel) rfl
set_option maxRecDepth 100000 in
theorem q300 : Cond.fieldLink "NextButOne" 10 "NextButOne" "realm" "LNextButOne$Realm;" ∈ uw := mem_uw 300 (by decide +kernel) rfl
set_option maxRecDepth 100000 in
theorem q301 : Cond.fieldLink "NextButOne" 16 "NextButOne" "image" "LNextButOne$Realm;" ∈ uw := mem_uw 301 (by decide +kernel) rfl
set_option maxRecDepth 100000 in
theorem q302 : Cond.fieldLink "NextButOne" 19 "NextButOne" "later" "LNextButOne$Realm;" ∈ uw := mem_uw 302 (by decide +kernel) rfl
set_option maxRecDepth 100000 in
theorem q303 : Cond.fieldLink "NextButOne" 27 "NextButOne" "chairs" "LNextButOne$Chairs;" ∈ uw := mem_uw 303 (by decide +kernel) rfl
set_option maxRecDepth 100000 in
theorem q304 : Cond.fieldLink "NextButOne" 34 "NextButOne" "tape" "LNextButOne$Tape;" ∈ uw := mem_uw 304 (by decide +kernel) rfl
set_option maxRecDepth 100000 in
theorem q305 : Cond.fieldLink "NextButOne" 40 "NextButOne" "sheets" "[LNextButOne$Sheet;" ∈ uw := mem_uw 305 (by decide +kernel) rfl
set_option maxRecDepth 100000 in
theorem q306 : Cond.fieldLink "NextButOne" 44 "NextButOne" "found" "[I" ∈ uw := mem_uw 306 (by decide +kernel) rfl
set_option maxRecDepth 100000 in
theorem q307 : Cond.fieldLink "NextButOne" 48 "NextButOne" "imageKept" "Z" ∈ uw := mem_uw 307 (by decide +kernel) rfl
set_option maxRecDepth 100000 in
theorem q324 : Cond.superclass "NextButOne" "java/lang/Object" ∈ uw := mem_uw 324 (by decide +kernel) rfl
set_option maxRecDepth 100000 in
theorem q325 : Cond.methodLink "NextButOneLaw" 13 yX7_person ∈ uw := mem_uw 325 (by decide +kernel) rfl
set_option maxRecDepth 100000 in
theorem q326 : Cond.instanceMethod yX7_person ∈ uw := mem_uw 326 (by decide +kernel) rfl
set_option maxRecDepth 100000 in
theorem q327 : Cond.selects "NextButOne" yX7_person yX7_person ∈ uw := mem_uw 327 (by decide +kernel) rfl
set_option maxRecDepth 100000 in
theorem q328 : Cond.code yX7_person cX7_person 4 (some .int) ∈ uw := mem_uw 328 rfl rfl
set_option maxRecDepth 100000 in
theorem q329 : Cond.methodLink "NextButOne" 53 yX7_within ∈ uw := mem_uw 329 (by decide +kernel) rfl
set_option maxRecDepth 100000 in
theorem q330 : Cond.static yX7_within ∈ uw := mem_uw 330 (by decide +kernel) rfl
set_option maxRecDepth 100000 in
theorem q331 : Cond.code yX7_within cX7_within 3 (some .boolean) ∈ uw := mem_uw 331 rfl rfl
set_option maxRecDepth 100000 in
theorem q332 : Cond.methodLink "NextButOne" 57 yX7_isSort ∈ uw := mem_uw 332 (by decide +kernel) rfl
set_option maxRecDepth 100000 in
theorem q333 : Cond.static yX7_isSort ∈ uw := mem_uw 333 (by decide +kernel) rfl
set_option maxRecDepth 100000 in
theorem q334 : Cond.code yX7_isSort cX7_isSort 1 (some .boolean) ∈ uw := mem_uw 334 rfl rfl
set_option maxRecDepth 100000 in
theorem q335 : Cond.constant "NextButOne" 61 (-1000000001) ∈ uw := mem_uw 335 (by decide +kernel) rfl
set_option maxRecDepth 100000 in
theorem q336 : Cond.methodLink "NextButOne" 62 yX7_finding ∈ uw := mem_uw 336 (by decide +kernel) rfl
set_option maxRecDepth 100000 in
theorem q338 : Cond.instanceMethod yX7_finding ∈ uw := mem_uw 338 (by decide +kernel) rfl
set_option maxRecDepth 100000 in
theorem q339 : Cond.code yX7_finding cX7_finding 3 (some .int) ∈ uw := mem_uw 339 rfl rfl
set_option maxRecDepth 100000 in
theorem q340 : Cond.constant "NextButOne" 76 (-1000000002) ∈ uw := mem_uw 340 (by decide +kernel) rfl
set_option maxRecDepth 100000 in
theorem q341 : Cond.methodLink "NextButOne" 77 yX1_join ∈ uw := mem_uw 341 (by decide +kernel) rfl
set_option maxRecDepth 100000 in
theorem q342 : Cond.instanceMethod yX1_join ∈ uw := mem_uw 342 (by decide +kernel) rfl
set_option maxRecDepth 100000 in
theorem q343 : Cond.selects "NextButOne$Folk" yX1_join yX1_join ∈ uw := mem_uw 343 (by decide +kernel) rfl
set_option maxRecDepth 100000 in
theorem q344 : Cond.code yX1_join cX1_join 5 (some .int) ∈ uw := mem_uw 344 rfl rfl
set_option maxRecDepth 100000 in
theorem q345 : Cond.methodLink "NextButOneLaw" 18 yX7_of ∈ uw := mem_uw 345 (by decide +kernel) rfl
set_option maxRecDepth 100000 in
theorem q346 : Cond.instanceMethod yX7_of ∈ uw := mem_uw 346 (by decide +kernel) rfl
set_option maxRecDepth 100000 in
theorem q347 : Cond.selects "NextButOne" yX7_of yX7_of ∈ uw := mem_uw 347 (by decide +kernel) rfl
set_option maxRecDepth 100000 in
theorem q348 : Cond.code yX7_of cX7_of 3 (some .int) ∈ uw := mem_uw 348 rfl rfl
set_option maxRecDepth 100000 in
theorem q349 : Cond.methodLink "NextButOne" 81 yX7_isOne ∈ uw := mem_uw 349 (by decide +kernel) rfl
set_option maxRecDepth 100000 in
theorem q351 : Cond.instanceMethod yX7_isOne ∈ uw := mem_uw 351 (by decide +kernel) rfl
set_option maxRecDepth 100000 in
theorem q352 : Cond.code yX7_isOne cX7_isOne 2 (some .boolean) ∈ uw := mem_uw 352 rfl rfl
set_option maxRecDepth 100000 in
theorem q353 : Cond.methodLink "NextButOne" 93 yX1_isAlive ∈ uw := mem_uw 353 (by decide +kernel) rfl
set_option maxRecDepth 100000 in
theorem q354 : Cond.instanceMethod yX1_isAlive ∈ uw := mem_uw 354 (by decide +kernel) rfl
set_option maxRecDepth 100000 in
theorem q355 : Cond.selects "NextButOne$Folk" yX1_isAlive yX1_isAlive ∈ uw := mem_uw 355 (by decide +kernel) rfl
set_option maxRecDepth 100000 in
theorem q356 : Cond.code yX1_isAlive cX1_isAlive 2 (some .boolean) ∈ uw := mem_uw 356 rfl rfl
set_option maxRecDepth 100000 in
theorem q357 : Cond.methodLink "NextButOne$Folk" 46 yX1_alive ∈ uw := mem_uw 357 (by decide +kernel) rfl
set_option maxRecDepth 100000 in
theorem q358 : Cond.instanceMethod yX1_alive ∈ uw := mem_uw 358 (by decide +kernel) rfl
set_option maxRecDepth 100000 in
theorem q359 : Cond.selects "NextButOne$Folk" yX1_alive yX1_alive ∈ uw := mem_uw 359 (by decide +kernel) rfl
set_option maxRecDepth 100000 in
theorem q360 : Cond.code yX1_alive cX1_alive 1 (some .int) ∈ uw := mem_uw 360 rfl rfl
set_option maxRecDepth 100000 in
theorem q362 : Cond.static yX7_isIn ∈ uw := mem_uw 362 (by decide +kernel) rfl
set_option maxRecDepth 100000 in
theorem q363 : Cond.code yX7_isIn cX7_isIn 2 (some .boolean) ∈ uw := mem_uw 363 rfl rfl
set_option maxRecDepth 100000 in
theorem q364 : Cond.methodLink "NextButOne" 96 yX4_placeOf ∈ uw := mem_uw 364 (by decide +kernel) rfl
set_option maxRecDepth 100000 in
theorem q365 : Cond.instanceMethod yX4_placeOf ∈ uw := mem_uw 365 (by decide +kernel) rfl
set_option maxRecDepth 100000 in
theorem q366 : Cond.selects "NextButOne$Seat" yX4_placeOf yX4_placeOf ∈ uw := mem_uw 366 (by decide +kernel) rfl
set_option maxRecDepth 100000 in
theorem q367 : Cond.code yX4_placeOf cX4_placeOf 3 (some .int) ∈ uw := mem_uw 367 rfl rfl
set_option maxRecDepth 100000 in
theorem q368 : Cond.methodLink "NextButOne" 99 yX4_choice ∈ uw := mem_uw 368 (by decide +kernel) rfl
set_option maxRecDepth 100000 in
theorem q369 : Cond.instanceMethod yX4_choice ∈ uw := mem_uw 369 (by decide +kernel) rfl
set_option maxRecDepth 100000 in
theorem q370 : Cond.selects "NextButOne$Seat" yX4_choice yX4_choice ∈ uw := mem_uw 370 (by decide +kernel) rfl
set_option maxRecDepth 100000 in
theorem q371 : Cond.code yX4_choice cX4_choice 11 (some .int) ∈ uw := mem_uw 371 rfl rfl
set_option maxRecDepth 100000 in
theorem q372 : Cond.methodLink "NextButOne$Seat" 81 yX4_allowed ∈ uw := mem_uw 372 (by decide +kernel) rfl
set_option maxRecDepth 100000 in
theorem q373 : Cond.instanceMethod yX4_allowed ∈ uw := mem_uw 373 (by decide +kernel) rfl
set_option maxRecDepth 100000 in
theorem q374 : Cond.selects "NextButOne$Seat" yX4_allowed yX4_allowed ∈ uw := mem_uw 374 (by decide +kernel) rfl
set_option maxRecDepth 100000 in
theorem q375 : Cond.code yX4_allowed cX4_allowed 3 (some .int) ∈ uw := mem_uw 375 rfl rfl
set_option maxRecDepth 100000 in
theorem q376 : Cond.methodLink "NextButOne$Seat" 67 yX1_alive ∈ uw := mem_uw 376 (by decide +kernel) rfl
set_option maxRecDepth 100000 in
theorem q377 : Cond.methodLink "NextButOne$Seat" 71 yX4_named ∈ uw := mem_uw 377 (by decide +kernel) rfl
set_option maxRecDepth 100000 in
theorem q378 : Cond.instanceMethod yX4_named ∈ uw := mem_uw 378 (by decide +kernel) rfl
set_option maxRecDepth 100000 in
theorem q379 : Cond.selects "NextButOne$Seat" yX4_named yX4_named ∈ uw := mem_uw 379 (by decide +kernel) rfl
set_option maxRecDepth 100000 in
theorem q380 : Cond.code yX4_named cX4_named 3 (some .int) ∈ uw := mem_uw 380 rfl rfl
set_option maxRecDepth 100000 in
theorem q381 : Cond.methodLink "NextButOne$Seat" 77 yX4_placeOf ∈ uw := mem_uw 381 (by decide +kernel) rfl
set_option maxRecDepth 100000 in
theorem q383 : Cond.methodLink "NextButOne$Seat" 88 yX4_wayOf ∈ uw := mem_uw 383 (by decide +kernel) rfl
set_option maxRecDepth 100000 in
theorem q385 : Cond.instanceMethod yX4_wayOf ∈ uw := mem_uw 385 (by decide +kernel) rfl
set_option maxRecDepth 100000 in
theorem q386 : Cond.code yX4_wayOf cX4_wayOf 5 (some .int) ∈ uw := mem_uw 386 rfl rfl
set_option maxRecDepth 100000 in
theorem q387 : Cond.methodLink "NextButOne$Seat" 98 yX4_firstNamed ∈ uw := mem_uw 387 (by decide +kernel) rfl
set_option maxRecDepth 100000 in
theorem q388 : Cond.instanceMethod yX4_firstNamed ∈ uw := mem_uw 388 (by decide +kernel) rfl
set_option maxRecDepth 100000 in
theorem q389 : Cond.selects "NextButOne$Seat" yX4_firstNamed yX4_firstNamed ∈ uw := mem_uw 389 (by decide +kernel) rfl
set_option maxRecDepth 100000 in
theorem q390 : Cond.code yX4_firstNamed cX4_firstNamed 2 (some .int) ∈ uw := mem_uw 390 rfl rfl
set_option maxRecDepth 100000 in
theorem q391 : Cond.methodLink "NextButOne$Seat" 108 yX3_isThere ∈ uw := mem_uw 391 (by decide +kernel) rfl
set_option maxRecDepth 100000 in
theorem q392 : Cond.instanceMethod yX3_isThere ∈ uw := mem_uw 392 (by decide +kernel) rfl
set_option maxRecDepth 100000 in
theorem q393 : Cond.selects "NextButOne$Script" yX3_isThere yX3_isThere ∈ uw := mem_uw 393 (by decide +kernel) rfl
set_option maxRecDepth 100000 in
theorem q394 : Cond.code yX3_isThere cX3_isThere 1 (some .boolean) ∈ uw := mem_uw 394 rfl rfl
set_option maxRecDepth 100000 in
theorem q395 : Cond.methodLink "NextButOne$Seat" 95 yX1_ofSort ∈ uw := mem_uw 395 (by decide +kernel) rfl
set_option maxRecDepth 100000 in
theorem q396 : Cond.instanceMethod yX1_ofSort ∈ uw := mem_uw 396 (by decide +kernel) rfl
set_option maxRecDepth 100000 in
theorem q397 : Cond.selects "NextButOne$Folk" yX1_ofSort yX1_ofSort ∈ uw := mem_uw 397 (by decide +kernel) rfl
set_option maxRecDepth 100000 in
theorem q398 : Cond.code yX1_ofSort cX1_ofSort 4 (some .int) ∈ uw := mem_uw 398 rfl rfl
set_option maxRecDepth 100000 in
theorem q399 : Cond.methodLink "NextButOne$Seat" 101 yX4_measure ∈ uw := mem_uw 399 (by decide +kernel) rfl
set_option maxRecDepth 100000 in
theorem q401 : Cond.instanceMethod yX4_measure ∈ uw := mem_uw 401 (by decide +kernel) rfl
set_option maxRecDepth 100000 in
theorem q402 : Cond.code yX4_measure cX4_measure 5 (some .int) ∈ uw := mem_uw 402 rfl rfl
set_option maxRecDepth 100000 in
theorem q403 : Cond.methodLink "NextButOne$Seat" 120 yX3_work ∈ uw := mem_uw 403 (by decide +kernel) rfl
set_option maxRecDepth 100000 in
theorem q404 : Cond.instanceMethod yX3_work ∈ uw := mem_uw 404 (by decide +kernel) rfl
set_option maxRecDepth 100000 in
theorem q405 : Cond.selects "NextButOne$Script" yX3_work yX3_work ∈ uw := mem_uw 405 (by decide +kernel) rfl
set_option maxRecDepth 100000 in
theorem q406 : Cond.code yX3_work cX3_work 8 (some .int) ∈ uw := mem_uw 406 rfl rfl
set_option maxRecDepth 100000 in
theorem q407 : Cond.methodLink "NextButOne$Script" 32 yX4_valueOf ∈ uw := mem_uw 407 (by decide +kernel) rfl
set_option maxRecDepth 100000 in
theorem q408 : Cond.instanceMethod yX4_valueOf ∈ uw := mem_uw 408 (by decide +kernel) rfl
set_option maxRecDepth 100000 in
theorem q409 : Cond.selects "NextButOne$Seat" yX4_valueOf yX4_valueOf ∈ uw := mem_uw 409 (by decide +kernel) rfl
set_option maxRecDepth 100000 in
theorem q410 : Cond.code yX4_valueOf cX4_valueOf 5 (some .int) ∈ uw := mem_uw 410 rfl rfl
set_option maxRecDepth 100000 in
theorem q411 : Cond.methodLink "NextButOne$Seat" 135 yX1_worthOf ∈ uw := mem_uw 411 (by decide +kernel) rfl
set_option maxRecDepth 100000 in
theorem q412 : Cond.instanceMethod yX1_worthOf ∈ uw := mem_uw 412 (by decide +kernel) rfl
set_option maxRecDepth 100000 in
theorem q413 : Cond.selects "NextButOne$Folk" yX1_worthOf yX1_worthOf ∈ uw := mem_uw 413 (by decide +kernel) rfl
set_option maxRecDepth 100000 in
theorem q414 : Cond.code yX1_worthOf cX1_worthOf 3 (some .int) ∈ uw := mem_uw 414 rfl rfl
set_option maxRecDepth 100000 in
theorem q415 : Cond.methodLink "NextButOne$Script" 38 yX3_truth ∈ uw := mem_uw 415 (by decide +kernel) rfl
set_option maxRecDepth 100000 in
theorem q416 : Cond.static yX3_truth ∈ uw := mem_uw 416 (by decide +kernel) rfl
set_option maxRecDepth 100000 in
theorem q417 : Cond.code yX3_truth cX3_truth 1 (some .int) ∈ uw := mem_uw 417 rfl rfl
set_option maxRecDepth 100000 in
theorem q418 : Cond.methodLink "NextButOne$Script" 42 yX3_join ∈ uw := mem_uw 418 (by decide +kernel) rfl
set_option maxRecDepth 100000 in
theorem q419 : Cond.static yX3_join ∈ uw := mem_uw 419 (by decide +kernel) rfl
set_option maxRecDepth 100000 in
theorem q420 : Cond.code yX3_join cX3_join 3 (some .int) ∈ uw := mem_uw 420 rfl rfl
set_option maxRecDepth 100000 in
theorem q421 : Cond.methodLink "NextButOne$Seat" 124 yX4_whatFollows ∈ uw := mem_uw 421 (by decide +kernel) rfl
set_option maxRecDepth 100000 in
theorem q422 : Cond.instanceMethod yX4_whatFollows ∈ uw := mem_uw 422 (by decide +kernel) rfl
set_option maxRecDepth 100000 in
theorem q423 : Cond.selects "NextButOne$Seat" yX4_whatFollows yX4_whatFollows ∈ uw := mem_uw 423 (by decide +kernel) rfl
set_option maxRecDepth 100000 in
theorem q424 : Cond.code yX4_whatFollows cX4_whatFollows 8 (some .int) ∈ uw := mem_uw 424 rfl rfl
set_option maxRecDepth 100000 in
theorem q425 : Cond.methodLink "NextButOne$Seat" 128 yX4_takeFrom ∈ uw := mem_uw 425 (by decide +kernel) rfl
set_option maxRecDepth 100000 in
theorem q426 : Cond.instanceMethod yX4_takeFrom ∈ uw := mem_uw 426 (by decide +kernel) rfl
set_option maxRecDepth 100000 in
theorem q427 : Cond.selects "NextButOne$Seat" yX4_takeFrom yX4_takeFrom ∈ uw := mem_uw 427 (by decide +kernel) rfl
set_option maxRecDepth 100000 in
theorem q428 : Cond.code yX4_takeFrom cX4_takeFrom 2 none ∈ uw := mem_uw 428 rfl rfl
set_option maxRecDepth 100000 in
theorem q429 : Cond.methodLink "NextButOne$Seat" 46 (⟨"java/lang/System", "arraycopy", "(Ljava/lang/Object;ILjava/lang/Object;II)V"⟩ : MethodName) ∈ uw := mem_uw 429 (by decide +kernel) rfl
set_option maxRecDepth 100000 in
theorem q430 : Cond.static (⟨"java/lang/System", "arraycopy", "(Ljava/lang/Object;ILjava/lang/Object;II)V"⟩ : MethodName) ∈ uw := mem_uw 430 (by decide +kernel) rfl
set_option maxRecDepth 100000 in
theorem q431 : Cond.native (⟨"java/lang/System", "arraycopy", "(Ljava/lang/Object;ILjava/lang/Object;II)V"⟩ : MethodName) ∈ uw := mem_uw 431 (by decide +kernel) rfl
set_option maxRecDepth 100000 in
theorem q432 : Cond.methodLink "NextButOne$Seat" 52 yX4_keepWord ∈ uw := mem_uw 432 (by decide +kernel) rfl
set_option maxRecDepth 100000 in
theorem q433 : Cond.instanceMethod yX4_keepWord ∈ uw := mem_uw 433 (by decide +kernel) rfl
set_option maxRecDepth 100000 in
theorem q434 : Cond.selects "NextButOne$Seat" yX4_keepWord yX4_keepWord ∈ uw := mem_uw 434 (by decide +kernel) rfl
set_option maxRecDepth 100000 in
theorem q435 : Cond.code yX4_keepWord cX4_keepWord 3 none ∈ uw := mem_uw 435 rfl rfl
set_option maxRecDepth 100000 in
theorem q436 : Cond.methodLink "NextButOne$Seat" 132 yX4_next ∈ uw := mem_uw 436 (by decide +kernel) rfl
set_option maxRecDepth 100000 in
theorem q437 : Cond.instanceMethod yX4_next ∈ uw := mem_uw 437 (by decide +kernel) rfl
set_option maxRecDepth 100000 in
theorem q438 : Cond.selects "NextButOne$Seat" yX4_next yX4_next ∈ uw := mem_uw 438 (by decide +kernel) rfl
set_option maxRecDepth 100000 in
theorem q439 : Cond.code yX4_next cX4_next 5 (some .int) ∈ uw := mem_uw 439 rfl rfl
set_option maxRecDepth 100000 in
theorem q440 : Cond.methodLink "NextButOne$Seat" 138 yX4_moveUp ∈ uw := mem_uw 440 (by decide +kernel) rfl
set_option maxRecDepth 100000 in
theorem q442 : Cond.instanceMethod yX4_moveUp ∈ uw := mem_uw 442 (by decide +kernel) rfl
set_option maxRecDepth 100000 in
theorem q443 : Cond.code yX4_moveUp cX4_moveUp 4 (some .int) ∈ uw := mem_uw 443 rfl rfl
set_option maxRecDepth 100000 in
theorem q444 : Cond.methodLink "NextButOne$Seat" 141 yX4_choice ∈ uw := mem_uw 444 (by decide +kernel) rfl
set_option maxRecDepth 100000 in
theorem q445 : Cond.methodLink "NextButOne" 103 yX1_trait ∈ uw := mem_uw 445 (by decide +kernel) rfl
set_option maxRecDepth 100000 in
theorem q446 : Cond.instanceMethod yX1_trait ∈ uw := mem_uw 446 (by decide +kernel) rfl
set_option maxRecDepth 100000 in
theorem q447 : Cond.selects "NextButOne$Folk" yX1_trait yX1_trait ∈ uw := mem_uw 447 (by decide +kernel) rfl
set_option maxRecDepth 100000 in
theorem q448 : Cond.code yX1_trait cX1_trait 2 (some (.array .int)) ∈ uw := mem_uw 448 rfl rfl
set_option maxRecDepth 100000 in
theorem q449 : Cond.methodLink "NextButOneLaw" 23 yX7_set ∈ uw := mem_uw 449 (by decide +kernel) rfl
set_option maxRecDepth 100000 in
theorem q450 : Cond.instanceMethod yX7_set ∈ uw := mem_uw 450 (by decide +kernel) rfl
set_option maxRecDepth 100000 in
theorem q451 : Cond.selects "NextButOne" yX7_set yX7_set ∈ uw := mem_uw 451 (by decide +kernel) rfl
set_option maxRecDepth 100000 in
theorem q452 : Cond.code yX7_set cX7_set 6 (some .int) ∈ uw := mem_uw 452 rfl rfl
set_option maxRecDepth 100000 in
theorem q453 : Cond.methodLink "NextButOne" 107 yX7_isTrait ∈ uw := mem_uw 453 (by decide +kernel) rfl
set_option maxRecDepth 100000 in
theorem q454 : Cond.static yX7_isTrait ∈ uw := mem_uw 454 (by decide +kernel) rfl
set_option maxRecDepth 100000 in
theorem q455 : Cond.code yX7_isTrait cX7_isTrait 2 (some .boolean) ∈ uw := mem_uw 455 rfl rfl
set_option maxRecDepth 100000 in
theorem q456 : Cond.methodLink "NextButOneLaw" 27 yX7_as ∈ uw := mem_uw 456 (by decide +kernel) rfl
set_option maxRecDepth 100000 in
theorem q457 : Cond.instanceMethod yX7_as ∈ uw := mem_uw 457 (by decide +kernel) rfl
set_option maxRecDepth 100000 in
theorem q458 : Cond.selects "NextButOne" yX7_as yX7_as ∈ uw := mem_uw 458 (by decide +kernel) rfl
set_option maxRecDepth 100000 in
theorem q459 : Cond.code yX7_as cX7_as 3 (some .int) ∈ uw := mem_uw 459 rfl rfl
set_option maxRecDepth 100000 in
theorem q460 : Cond.methodLink "NextButOne" 114 yX7_isUnder ∈ uw := mem_uw 460 (by decide +kernel) rfl
set_option maxRecDepth 100000 in
theorem q461 : Cond.static yX7_isUnder ∈ uw := mem_uw 461 (by decide +kernel) rfl
set_option maxRecDepth 100000 in
theorem q462 : Cond.code yX7_isUnder cX7_isUnder 4 (some .boolean) ∈ uw := mem_uw 462 rfl rfl
set_option maxRecDepth 100000 in
theorem q463 : Cond.fieldLink "NextButOne" 312 "NextButOne" "KIND_ABOVE" "[I" ∈ uw := mem_uw 463 (by decide +kernel) rfl
set_option maxRecDepth 100000 in
theorem q465 : Cond.constant "NextButOne" 117 (-1000000003) ∈ uw := mem_uw 465 (by decide +kernel) rfl
set_option maxRecDepth 100000 in
theorem q466 : Cond.methodLink "NextButOneLaw" 31 yX7_likes ∈ uw := mem_uw 466 (by decide +kernel) rfl
set_option maxRecDepth 100000 in
theorem q467 : Cond.instanceMethod yX7_likes ∈ uw := mem_uw 467 (by decide +kernel) rfl
set_option maxRecDepth 100000 in
theorem q468 : Cond.selects "NextButOne" yX7_likes yX7_likes ∈ uw := mem_uw 468 (by decide +kernel) rfl
set_option maxRecDepth 100000 in
theorem q469 : Cond.code yX7_likes cX7_likes 6 (some .int) ∈ uw := mem_uw 469 rfl rfl
set_option maxRecDepth 100000 in
theorem q470 : Cond.methodLink "NextButOne" 118 yX7_areTwo ∈ uw := mem_uw 470 (by decide +kernel) rfl
set_option maxRecDepth 100000 in
theorem q472 : Cond.instanceMethod yX7_areTwo ∈ uw := mem_uw 472 (by decide +kernel) rfl
set_option maxRecDepth 100000 in
theorem q473 : Cond.code yX7_areTwo cX7_areTwo 3 (some .boolean) ∈ uw := mem_uw 473 rfl rfl
set_option maxRecDepth 100000 in
theorem q474 : Cond.methodLink "NextButOneLaw" 35 yX7_worth ∈ uw := mem_uw 474 (by decide +kernel) rfl
set_option maxRecDepth 100000 in
theorem q475 : Cond.instanceMethod yX7_worth ∈ uw := mem_uw 475 (by decide +kernel) rfl
set_option maxRecDepth 100000 in
theorem q476 : Cond.selects "NextButOne" yX7_worth yX7_worth ∈ uw := mem_uw 476 (by decide +kernel) rfl
set_option maxRecDepth 100000 in
theorem q477 : Cond.code yX7_worth cX7_worth 6 (some .int) ∈ uw := mem_uw 477 rfl rfl
set_option maxRecDepth 100000 in
theorem q478 : Cond.methodLink "NextButOneLaw" 39 yX7_rule ∈ uw := mem_uw 478 (by decide +kernel) rfl
set_option maxRecDepth 100000 in
theorem q479 : Cond.instanceMethod yX7_rule ∈ uw := mem_uw 479 (by decide +kernel) rfl
set_option maxRecDepth 100000 in
theorem q480 : Cond.selects "NextButOne" yX7_rule yX7_rule ∈ uw := mem_uw 480 (by decide +kernel) rfl
set_option maxRecDepth 100000 in
theorem q481 : Cond.code yX7_rule cX7_rule 4 (some .int) ∈ uw := mem_uw 481 rfl rfl
set_option maxRecDepth 100000 in
theorem q482 : Cond.fieldLink "NextButOne" 127 "NextButOne" "RULE_LEAST" "[I" ∈ uw := mem_uw 482 (by decide +kernel) rfl
set_option maxRecDepth 100000 in
theorem q484 : Cond.fieldLink "NextButOne" 130 "NextButOne" "RULE_MOST" "[I" ∈ uw := mem_uw 484 (by decide +kernel) rfl
set_option maxRecDepth 100000 in
theorem q486 : Cond.methodLink "NextButOne" 136 yX4_giveRule ∈ uw := mem_uw 486 (by decide +kernel) rfl
set_option maxRecDepth 100000 in
theorem q487 : Cond.instanceMethod yX4_giveRule ∈ uw := mem_uw 487 (by decide +kernel) rfl
set_option maxRecDepth 100000 in
theorem q488 : Cond.selects "NextButOne$Seat" yX4_giveRule yX4_giveRule ∈ uw := mem_uw 488 (by decide +kernel) rfl
set_option maxRecDepth 100000 in
theorem q489 : Cond.code yX4_giveRule cX4_giveRule 3 none ∈ uw := mem_uw 489 rfl rfl
set_option maxRecDepth 100000 in
theorem q490 : Cond.methodLink "NextButOne$Seat" 56 yJ7_fill_fda19 ∈ uw := mem_uw 490 (by decide +kernel) rfl
set_option maxRecDepth 100000 in
theorem q491 : Cond.static yJ7_fill_fda19 ∈ uw := mem_uw 491 (by decide +kernel) rfl
set_option maxRecDepth 100000 in
theorem q492 : Cond.code yJ7_fill_fda19 cJ7_fill_fda19 5 none ∈ uw := mem_uw 492 rfl rfl
set_option maxRecDepth 100000 in
theorem q493 : Cond.methodLink "java/util/Arrays" 13 yJ7_rangeCheck_23922 ∈ uw := mem_uw 493 (by decide +kernel) rfl
set_option maxRecDepth 100000 in
theorem q494 : Cond.static yJ7_rangeCheck_23922 ∈ uw := mem_uw 494 (by decide +kernel) rfl
set_option maxRecDepth 100000 in
theorem q495 : Cond.code yJ7_rangeCheck_23922 cJ7_rangeCheck_23922 3 none ∈ uw := mem_uw 495 rfl rfl
set_option maxRecDepth 100000 in
theorem q496 : Cond.methodLink "NextButOneLaw" 43 yX7_sit ∈ uw := mem_uw 496 (by decide +kernel) rfl
set_option maxRecDepth 100000 in
theorem q497 : Cond.instanceMethod yX7_sit ∈ uw := mem_uw 497 (by decide +kernel) rfl
set_option maxRecDepth 100000 in
theorem q498 : Cond.selects "NextButOne" yX7_sit yX7_sit ∈ uw := mem_uw 498 (by decide +kernel) rfl
set_option maxRecDepth 100000 in
theorem q499 : Cond.code yX7_sit cX7_sit 3 (some .int) ∈ uw := mem_uw 499 rfl rfl
set_option maxRecDepth 100000 in
theorem q500 : Cond.constant "NextButOne" 140 (-1000000005) ∈ uw := mem_uw 500 (by decide +kernel) rfl
set_option maxRecDepth 100000 in
theorem q501 : Cond.methodLink "NextButOneLaw" 48 yX7_line ∈ uw := mem_uw 501 (by decide +kernel) rfl
set_option maxRecDepth 100000 in
theorem q502 : Cond.instanceMethod yX7_line ∈ uw := mem_uw 502 (by decide +kernel) rfl
set_option maxRecDepth 100000 in
theorem q503 : Cond.selects "NextButOne" yX7_line yX7_line ∈ uw := mem_uw 503 (by decide +kernel) rfl
set_option maxRecDepth 100000 in
theorem q504 : Cond.code yX7_line cX7_line 4 (some .int) ∈ uw := mem_uw 504 rfl rfl
set_option maxRecDepth 100000 in
theorem q505 : Cond.methodLink "NextButOne" 147 yX7_isPlace ∈ uw := mem_uw 505 (by decide +kernel) rfl
set_option maxRecDepth 100000 in
theorem q507 : Cond.instanceMethod yX7_isPlace ∈ uw := mem_uw 507 (by decide +kernel) rfl
set_option maxRecDepth 100000 in
theorem q508 : Cond.code yX7_isPlace cX7_isPlace 2 (some .boolean) ∈ uw := mem_uw 508 rfl rfl
set_option maxRecDepth 100000 in
theorem q509 : Cond.methodLink "NextButOne" 150 yX7_mayStandInLine ∈ uw := mem_uw 509 (by decide +kernel) rfl
set_option maxRecDepth 100000 in
theorem q511 : Cond.instanceMethod yX7_mayStandInLine ∈ uw := mem_uw 511 (by decide +kernel) rfl
set_option maxRecDepth 100000 in
theorem q512 : Cond.code yX7_mayStandInLine cX7_mayStandInLine 3 (some .boolean) ∈ uw := mem_uw 512 rfl rfl
set_option maxRecDepth 100000 in
theorem q513 : Cond.methodLink "NextButOneLaw" 52 yX7_may ∈ uw := mem_uw 513 (by decide +kernel) rfl
set_option maxRecDepth 100000 in
theorem q514 : Cond.instanceMethod yX7_may ∈ uw := mem_uw 514 (by decide +kernel) rfl
set_option maxRecDepth 100000 in
theorem q515 : Cond.selects "NextButOne" yX7_may yX7_may ∈ uw := mem_uw 515 (by decide +kernel) rfl
set_option maxRecDepth 100000 in
theorem q516 : Cond.code yX7_may cX7_may 2 (some .int) ∈ uw := mem_uw 516 rfl rfl
set_option maxRecDepth 100000 in
theorem q517 : Cond.methodLink "NextButOne" 156 yX4_allowed ∈ uw := mem_uw 517 (by decide +kernel) rfl
set_option maxRecDepth 100000 in
theorem q518 : Cond.methodLink "NextButOneLaw" 56 yX7_follows ∈ uw := mem_uw 518 (by decide +kernel) rfl
set_option maxRecDepth 100000 in
theorem q519 : Cond.instanceMethod yX7_follows ∈ uw := mem_uw 519 (by decide +kernel) rfl
set_option maxRecDepth 100000 in
theorem q520 : Cond.selects "NextButOne" yX7_follows yX7_follows ∈ uw := mem_uw 520 (by decide +kernel) rfl
set_option maxRecDepth 100000 in
theorem q521 : Cond.code yX7_follows cX7_follows 3 (some .int) ∈ uw := mem_uw 521 rfl rfl
set_option maxRecDepth 100000 in
theorem q522 : Cond.methodLink "NextButOne" 159 yX7_isIn ∈ uw := mem_uw 522 (by decide +kernel) rfl
set_option maxRecDepth 100000 in
theorem q523 : Cond.methodLink "NextButOne" 162 yX4_whatFollows ∈ uw := mem_uw 523 (by decide +kernel) rfl
set_option maxRecDepth 100000 in
theorem q524 : Cond.methodLink "NextButOneLaw" 60 yX7_come ∈ uw := mem_uw 524 (by decide +kernel) rfl
set_option maxRecDepth 100000 in
theorem q525 : Cond.instanceMethod yX7_come ∈ uw := mem_uw 525 (by decide +kernel) rfl
set_option maxRecDepth 100000 in
theorem q526 : Cond.selects "NextButOne" yX7_come yX7_come ∈ uw := mem_uw 526 (by decide +kernel) rfl
set_option maxRecDepth 100000 in
theorem q527 : Cond.code yX7_come cX7_come 1 (some .int) ∈ uw := mem_uw 527 rfl rfl
set_option maxRecDepth 100000 in
theorem q528 : Cond.methodLink "NextButOne" 165 yX4_next ∈ uw := mem_uw 528 (by decide +kernel) rfl
set_option maxRecDepth 100000 in
theorem q529 : Cond.methodLink "NextButOneLaw" 65 yX7_years ∈ uw := mem_uw 529 (by decide +kernel) rfl
set_option maxRecDepth 100000 in
theorem q530 : Cond.instanceMethod yX7_years ∈ uw := mem_uw 530 (by decide +kernel) rfl
set_option maxRecDepth 100000 in
theorem q531 : Cond.selects "NextButOne" yX7_years yX7_years ∈ uw := mem_uw 531 (by decide +kernel) rfl
set_option maxRecDepth 100000 in
theorem q532 : Cond.code yX7_years cX7_years 4 (some .int) ∈ uw := mem_uw 532 rfl rfl
set_option maxRecDepth 100000 in
theorem q533 : Cond.methodLink "NextButOne" 168 yX4_year ∈ uw := mem_uw 533 (by decide +kernel) rfl
set_option maxRecDepth 100000 in
theorem q534 : Cond.instanceMethod yX4_year ∈ uw := mem_uw 534 (by decide +kernel) rfl
set_option maxRecDepth 100000 in
theorem q535 : Cond.selects "NextButOne$Seat" yX4_year yX4_year ∈ uw := mem_uw 535 (by decide +kernel) rfl
set_option maxRecDepth 100000 in
theorem q536 : Cond.code yX4_year cX4_year 1 (some .boolean) ∈ uw := mem_uw 536 rfl rfl
set_option maxRecDepth 100000 in
theorem q537 : Cond.methodLink "NextButOne$Seat" 144 yX1_grow ∈ uw := mem_uw 537 (by decide +kernel) rfl
set_option maxRecDepth 100000 in
theorem q538 : Cond.instanceMethod yX1_grow ∈ uw := mem_uw 538 (by decide +kernel) rfl
set_option maxRecDepth 100000 in
theorem q539 : Cond.selects "NextButOne$Folk" yX1_grow yX1_grow ∈ uw := mem_uw 539 (by decide +kernel) rfl
set_option maxRecDepth 100000 in
theorem q540 : Cond.code yX1_grow cX1_grow 2 none ∈ uw := mem_uw 540 rfl rfl
set_option maxRecDepth 100000 in
theorem q541 : Cond.methodLink "NextButOne$Folk" 54 yX1_isAlive ∈ uw := mem_uw 541 (by decide +kernel) rfl
set_option maxRecDepth 100000 in
theorem q542 : Cond.methodLink "NextButOne$Seat" 147 yX1_drawLots ∈ uw := mem_uw 542 (by decide +kernel) rfl
set_option maxRecDepth 100000 in
theorem q543 : Cond.instanceMethod yX1_drawLots ∈ uw := mem_uw 543 (by decide +kernel) rfl
set_option maxRecDepth 100000 in
theorem q544 : Cond.selects "NextButOne$Folk" yX1_drawLots yX1_drawLots ∈ uw := mem_uw 544 (by decide +kernel) rfl
set_option maxRecDepth 100000 in
theorem q545 : Cond.code yX1_drawLots cX1_drawLots 4 none ∈ uw := mem_uw 545 rfl rfl
set_option maxRecDepth 100000 in
theorem q546 : Cond.constant "NextButOne$Folk" 58 1103515245 ∈ uw := mem_uw 546 (by decide +kernel) rfl
set_option maxRecDepth 100000 in
theorem q547 : Cond.methodLink "NextButOne$Seat" 151 yX4_bury ∈ uw := mem_uw 547 (by decide +kernel) rfl
set_option maxRecDepth 100000 in
theorem q549 : Cond.instanceMethod yX4_bury ∈ uw := mem_uw 549 (by decide +kernel) rfl
set_option maxRecDepth 100000 in
theorem q550 : Cond.code yX4_bury cX4_bury 2 none ∈ uw := mem_uw 550 rfl rfl
set_option maxRecDepth 100000 in
theorem q551 : Cond.methodLink "NextButOne$Seat" 154 yX1_isAlive ∈ uw := mem_uw 551 (by decide +kernel) rfl
set_option maxRecDepth 100000 in
theorem q552 : Cond.methodLink "NextButOneLaw" 69 yX7_seed ∈ uw := mem_uw 552 (by decide +kernel) rfl
set_option maxRecDepth 100000 in
theorem q553 : Cond.instanceMethod yX7_seed ∈ uw := mem_uw 553 (by decide +kernel) rfl
set_option maxRecDepth 100000 in
theorem q554 : Cond.selects "NextButOne" yX7_seed yX7_seed ∈ uw := mem_uw 554 (by decide +kernel) rfl
set_option maxRecDepth 100000 in
theorem q555 : Cond.code yX7_seed cX7_seed 3 (some .int) ∈ uw := mem_uw 555 rfl rfl
set_option maxRecDepth 100000 in
theorem q556 : Cond.methodLink "NextButOneLaw" 73 yX7_now ∈ uw := mem_uw 556 (by decide +kernel) rfl
set_option maxRecDepth 100000 in
theorem q557 : Cond.instanceMethod yX7_now ∈ uw := mem_uw 557 (by decide +kernel) rfl
set_option maxRecDepth 100000 in
theorem q558 : Cond.selects "NextButOne" yX7_now yX7_now ∈ uw := mem_uw 558 (by decide +kernel) rfl
set_option maxRecDepth 100000 in
theorem q559 : Cond.code yX7_now cX7_now 2 (some .int) ∈ uw := mem_uw 559 rfl rfl
set_option maxRecDepth 100000 in
theorem q560 : Cond.methodLink "NextButOneLaw" 77 yX7_ahead ∈ uw := mem_uw 560 (by decide +kernel) rfl
set_option maxRecDepth 100000 in
theorem q561 : Cond.instanceMethod yX7_ahead ∈ uw := mem_uw 561 (by decide +kernel) rfl
set_option maxRecDepth 100000 in
theorem q562 : Cond.selects "NextButOne" yX7_ahead yX7_ahead ∈ uw := mem_uw 562 (by decide +kernel) rfl
set_option maxRecDepth 100000 in
theorem q563 : Cond.code yX7_ahead cX7_ahead 4 (some .int) ∈ uw := mem_uw 563 rfl rfl
set_option maxRecDepth 100000 in
theorem q564 : Cond.methodLink "NextButOne" 175 yX7_isChairs ∈ uw := mem_uw 564 (by decide +kernel) rfl
set_option maxRecDepth 100000 in
theorem q565 : Cond.static yX7_isChairs ∈ uw := mem_uw 565 (by decide +kernel) rfl
set_option maxRecDepth 100000 in
theorem q566 : Cond.code yX7_isChairs cX7_isChairs 1 (some .boolean) ∈ uw := mem_uw 566 rfl rfl
set_option maxRecDepth 100000 in
theorem q567 : Cond.methodLink "NextButOne" 178 yX0_start ∈ uw := mem_uw 567 (by decide +kernel) rfl
set_option maxRecDepth 100000 in
theorem q568 : Cond.instanceMethod yX0_start ∈ uw := mem_uw 568 (by decide +kernel) rfl
set_option maxRecDepth 100000 in
theorem q569 : Cond.selects "NextButOne$Chairs" yX0_start yX0_start ∈ uw := mem_uw 569 (by decide +kernel) rfl
set_option maxRecDepth 100000 in
theorem q570 : Cond.code yX0_start cX0_start 1 none ∈ uw := mem_uw 570 rfl rfl
set_option maxRecDepth 100000 in
theorem q571 : Cond.methodLink "NextButOne$Chairs" 58 yX4_takeFrom ∈ uw := mem_uw 571 (by decide +kernel) rfl
set_option maxRecDepth 100000 in
theorem q572 : Cond.methodLink "NextButOneLaw" 81 yX7_ever ∈ uw := mem_uw 572 (by decide +kernel) rfl
set_option maxRecDepth 100000 in
theorem q573 : Cond.instanceMethod yX7_ever ∈ uw := mem_uw 573 (by decide +kernel) rfl
set_option maxRecDepth 100000 in
theorem q574 : Cond.selects "NextButOne" yX7_ever yX7_ever ∈ uw := mem_uw 574 (by decide +kernel) rfl
set_option maxRecDepth 100000 in
theorem q575 : Cond.code yX7_ever cX7_ever 1 (some .int) ∈ uw := mem_uw 575 rfl rfl
set_option maxRecDepth 100000 in
theorem q576 : Cond.methodLink "NextButOne" 184 yX0_goRound ∈ uw := mem_uw 576 (by decide +kernel) rfl
set_option maxRecDepth 100000 in
theorem q577 : Cond.instanceMethod yX0_goRound ∈ uw := mem_uw 577 (by decide +kernel) rfl
set_option maxRecDepth 100000 in
theorem q578 : Cond.selects "NextButOne$Chairs" yX0_goRound yX0_goRound ∈ uw := mem_uw 578 (by decide +kernel) rfl
set_option maxRecDepth 100000 in
theorem q579 : Cond.code yX0_goRound cX0_goRound 3 (some .boolean) ∈ uw := mem_uw 579 rfl rfl
set_option maxRecDepth 100000 in
theorem q580 : Cond.methodLink "NextButOne$Chairs" 80 yX0_start ∈ uw := mem_uw 580 (by decide +kernel) rfl
set_option maxRecDepth 100000 in
theorem q581 : Cond.methodLink "NextButOne$Chairs" 83 yX4_code ∈ uw := mem_uw 581 (by decide +kernel) rfl
set_option maxRecDepth 100000 in
theorem q582 : Cond.instanceMethod yX4_code ∈ uw := mem_uw 582 (by decide +kernel) rfl
set_option maxRecDepth 100000 in
theorem q583 : Cond.selects "NextButOne$Seat" yX4_code yX4_code ∈ uw := mem_uw 583 (by decide +kernel) rfl
set_option maxRecDepth 100000 in
theorem q584 : Cond.code yX4_code cX4_code 3 (some .int) ∈ uw := mem_uw 584 rfl rfl
set_option maxRecDepth 100000 in
theorem q585 : Cond.methodLink "NextButOne$Chairs" 68 yX4_next ∈ uw := mem_uw 585 (by decide +kernel) rfl
set_option maxRecDepth 100000 in
theorem q586 : Cond.constant "NextButOne" 187 (-1000000004) ∈ uw := mem_uw 586 (by decide +kernel) rfl
set_option maxRecDepth 100000 in
theorem q587 : Cond.methodLink "NextButOne" 188 yX0_whoGoesRound ∈ uw := mem_uw 587 (by decide +kernel) rfl
set_option maxRecDepth 100000 in
theorem q588 : Cond.instanceMethod yX0_whoGoesRound ∈ uw := mem_uw 588 (by decide +kernel) rfl
set_option maxRecDepth 100000 in
theorem q589 : Cond.selects "NextButOne$Chairs" yX0_whoGoesRound yX0_whoGoesRound ∈ uw := mem_uw 589 (by decide +kernel) rfl
set_option maxRecDepth 100000 in
theorem q590 : Cond.code yX0_whoGoesRound cX0_whoGoesRound 3 (some .int) ∈ uw := mem_uw 590 rfl rfl
set_option maxRecDepth 100000 in
theorem q591 : Cond.methodLink "NextButOneLaw" 85 yX7_turns ∈ uw := mem_uw 591 (by decide +kernel) rfl
set_option maxRecDepth 100000 in
theorem q592 : Cond.instanceMethod yX7_turns ∈ uw := mem_uw 592 (by decide +kernel) rfl
set_option maxRecDepth 100000 in
theorem q593 : Cond.selects "NextButOne" yX7_turns yX7_turns ∈ uw := mem_uw 593 (by decide +kernel) rfl
set_option maxRecDepth 100000 in
theorem q594 : Cond.code yX7_turns cX7_turns 2 (some .int) ∈ uw := mem_uw 594 rfl rfl
set_option maxRecDepth 100000 in
theorem q595 : Cond.methodLink "NextButOneLaw" 89 yX7_share ∈ uw := mem_uw 595 (by decide +kernel) rfl
set_option maxRecDepth 100000 in
theorem q596 : Cond.instanceMethod yX7_share ∈ uw := mem_uw 596 (by decide +kernel) rfl
set_option maxRecDepth 100000 in
theorem q597 : Cond.selects "NextButOne" yX7_share yX7_share ∈ uw := mem_uw 597 (by decide +kernel) rfl
set_option maxRecDepth 100000 in
theorem q598 : Cond.code yX7_share cX7_share 3 (some .int) ∈ uw := mem_uw 598 rfl rfl
set_option maxRecDepth 100000 in
theorem q599 : Cond.methodLink "NextButOne" 198 yX0_tally ∈ uw := mem_uw 599 (by decide +kernel) rfl
set_option maxRecDepth 100000 in
theorem q600 : Cond.instanceMethod yX0_tally ∈ uw := mem_uw 600 (by decide +kernel) rfl
set_option maxRecDepth 100000 in
theorem q601 : Cond.selects "NextButOne$Chairs" yX0_tally yX0_tally ∈ uw := mem_uw 601 (by decide +kernel) rfl
set_option maxRecDepth 100000 in
theorem q602 : Cond.code yX0_tally cX0_tally 4 none ∈ uw := mem_uw 602 rfl rfl
set_option maxRecDepth 100000 in
theorem q603 : Cond.methodLink "NextButOne$Chairs" 62 yJ7_fill_53178 ∈ uw := mem_uw 603 (by decide +kernel) rfl
set_option maxRecDepth 100000 in
theorem q604 : Cond.static yJ7_fill_53178 ∈ uw := mem_uw 604 (by decide +kernel) rfl
set_option maxRecDepth 100000 in
theorem q605 : Cond.code yJ7_fill_53178 cJ7_fill_53178 4 none ∈ uw := mem_uw 605 rfl rfl
set_option maxRecDepth 100000 in
theorem q606 : Cond.methodLink "NextButOneLaw" 93 yX7_has ∈ uw := mem_uw 606 (by decide +kernel) rfl
set_option maxRecDepth 100000 in
theorem q607 : Cond.instanceMethod yX7_has ∈ uw := mem_uw 607 (by decide +kernel) rfl
set_option maxRecDepth 100000 in
theorem q608 : Cond.selects "NextButOne" yX7_has yX7_has ∈ uw := mem_uw 608 (by decide +kernel) rfl
set_option maxRecDepth 100000 in
theorem q609 : Cond.code yX7_has cX7_has 3 (some .int) ∈ uw := mem_uw 609 rfl rfl
set_option maxRecDepth 100000 in
theorem q610 : Cond.methodLink "NextButOne" 205 yX0_worthFor ∈ uw := mem_uw 610 (by decide +kernel) rfl
set_option maxRecDepth 100000 in
theorem q611 : Cond.instanceMethod yX0_worthFor ∈ uw := mem_uw 611 (by decide +kernel) rfl
set_option maxRecDepth 100000 in
theorem q612 : Cond.selects "NextButOne$Chairs" yX0_worthFor yX0_worthFor ∈ uw := mem_uw 612 (by decide +kernel) rfl
set_option maxRecDepth 100000 in
theorem q613 : Cond.code yX0_worthFor cX0_worthFor 4 (some .int) ∈ uw := mem_uw 613 rfl rfl
set_option maxRecDepth 100000 in
theorem q614 : Cond.methodLink "NextButOneLaw" 97 yX7_but ∈ uw := mem_uw 614 (by decide +kernel) rfl
set_option maxRecDepth 100000 in
theorem q615 : Cond.instanceMethod yX7_but ∈ uw := mem_uw 615 (by decide +kernel) rfl
set_option maxRecDepth 100000 in
theorem q616 : Cond.selects "NextButOne" yX7_but yX7_but ∈ uw := mem_uw 616 (by decide +kernel) rfl
set_option maxRecDepth 100000 in
theorem q617 : Cond.code yX7_but cX7_but 4 (some .int) ∈ uw := mem_uw 617 rfl rfl
set_option maxRecDepth 100000 in
theorem q618 : Cond.methodLink "NextButOneLaw" 101 yX7_vote ∈ uw := mem_uw 618 (by decide +kernel) rfl
set_option maxRecDepth 100000 in
theorem q619 : Cond.instanceMethod yX7_vote ∈ uw := mem_uw 619 (by decide +kernel) rfl
set_option maxRecDepth 100000 in
theorem q620 : Cond.selects "NextButOne" yX7_vote yX7_vote ∈ uw := mem_uw 620 (by decide +kernel) rfl
set_option maxRecDepth 100000 in
theorem q621 : Cond.code yX7_vote cX7_vote 5 (some .int) ∈ uw := mem_uw 621 rfl rfl
set_option maxRecDepth 100000 in
theorem q622 : Cond.methodLink "NextButOne" 208 yX1_likedByOthers ∈ uw := mem_uw 622 (by decide +kernel) rfl
set_option maxRecDepth 100000 in
theorem q623 : Cond.instanceMethod yX1_likedByOthers ∈ uw := mem_uw 623 (by decide +kernel) rfl
set_option maxRecDepth 100000 in
theorem q624 : Cond.selects "NextButOne$Folk" yX1_likedByOthers yX1_likedByOthers ∈ uw := mem_uw 624 (by decide +kernel) rfl
set_option maxRecDepth 100000 in
theorem q625 : Cond.code yX1_likedByOthers cX1_likedByOthers 4 (some .int) ∈ uw := mem_uw 625 rfl rfl
set_option maxRecDepth 100000 in
theorem q626 : Cond.methodLink "NextButOneLaw" 105 yX7_kept ∈ uw := mem_uw 626 (by decide +kernel) rfl
set_option maxRecDepth 100000 in
theorem q627 : Cond.instanceMethod yX7_kept ∈ uw := mem_uw 627 (by decide +kernel) rfl
set_option maxRecDepth 100000 in
theorem q628 : Cond.selects "NextButOne" yX7_kept yX7_kept ∈ uw := mem_uw 628 (by decide +kernel) rfl
set_option maxRecDepth 100000 in
theorem q629 : Cond.code yX7_kept cX7_kept 4 (some .int) ∈ uw := mem_uw 629 rfl rfl
set_option maxRecDepth 100000 in
theorem q630 : Cond.methodLink "NextButOne" 211 yX0_noteWithout ∈ uw := mem_uw 630 (by decide +kernel) rfl
set_option maxRecDepth 100000 in
theorem q631 : Cond.instanceMethod yX0_noteWithout ∈ uw := mem_uw 631 (by decide +kernel) rfl
set_option maxRecDepth 100000 in
theorem q632 : Cond.selects "NextButOne$Chairs" yX0_noteWithout yX0_noteWithout ∈ uw := mem_uw 632 (by decide +kernel) rfl
set_option maxRecDepth 100000 in
theorem q633 : Cond.code yX0_noteWithout cX0_noteWithout 2 none ∈ uw := mem_uw 633 rfl rfl
set_option maxRecDepth 100000 in
theorem q634 : Cond.methodLink "NextButOne$Chairs" 87 yX0_worthFor ∈ uw := mem_uw 634 (by decide +kernel) rfl
set_option maxRecDepth 100000 in
theorem q635 : Cond.methodLink "NextButOne" 214 yX4_keepWord ∈ uw := mem_uw 635 (by decide +kernel) rfl
set_option maxRecDepth 100000 in
theorem q636 : Cond.methodLink "NextButOne" 217 yX0_moreFor ∈ uw := mem_uw 636 (by decide +kernel) rfl
set_option maxRecDepth 100000 in
theorem q637 : Cond.instanceMethod yX0_moreFor ∈ uw := mem_uw 637 (by decide +kernel) rfl
set_option maxRecDepth 100000 in
theorem q638 : Cond.selects "NextButOne$Chairs" yX0_moreFor yX0_moreFor ∈ uw := mem_uw 638 (by decide +kernel) rfl
set_option maxRecDepth 100000 in
theorem q639 : Cond.code yX0_moreFor cX0_moreFor 3 (some .int) ∈ uw := mem_uw 639 rfl rfl
set_option maxRecDepth 100000 in
theorem q640 : Cond.methodLink "NextButOneLaw" 109 yX7_pact ∈ uw := mem_uw 640 (by decide +kernel) rfl
set_option maxRecDepth 100000 in
theorem q641 : Cond.instanceMethod yX7_pact ∈ uw := mem_uw 641 (by decide +kernel) rfl
set_option maxRecDepth 100000 in
theorem q642 : Cond.selects "NextButOne" yX7_pact yX7_pact ∈ uw := mem_uw 642 (by decide +kernel) rfl
set_option maxRecDepth 100000 in
theorem q643 : Cond.code yX7_pact cX7_pact 7 (some .int) ∈ uw := mem_uw 643 rfl rfl
set_option maxRecDepth 100000 in
theorem q644 : Cond.methodLink "NextButOne" 220 yX1_alive ∈ uw := mem_uw 644 (by decide +kernel) rfl
set_option maxRecDepth 100000 in
theorem q645 : Cond.methodLink "NextButOne" 223 yJ6_bitCount_0f7a4 ∈ uw := mem_uw 645 (by decide +kernel) rfl
set_option maxRecDepth 100000 in
theorem q646 : Cond.static yJ6_bitCount_0f7a4 ∈ uw := mem_uw 646 (by decide +kernel) rfl
set_option maxRecDepth 100000 in
theorem q647 : Cond.code yJ6_bitCount_0f7a4 cJ6_bitCount_0f7a4 1 (some .int) ∈ uw := mem_uw 647 rfl rfl
set_option maxRecDepth 100000 in
theorem q648 : Cond.constant "java/lang/Integer" 265 1431655765 ∈ uw := mem_uw 648 (by decide +kernel) rfl
set_option maxRecDepth 100000 in
theorem q649 : Cond.constant "java/lang/Integer" 266 858993459 ∈ uw := mem_uw 649 (by decide +kernel) rfl
set_option maxRecDepth 100000 in
theorem q650 : Cond.constant "java/lang/Integer" 267 252645135 ∈ uw := mem_uw 650 (by decide +kernel) rfl
set_option maxRecDepth 100000 in
theorem q651 : Cond.methodLink "NextButOneLaw" 113 yX7_odds ∈ uw := mem_uw 651 (by decide +kernel) rfl
set_option maxRecDepth 100000 in
theorem q652 : Cond.instanceMethod yX7_odds ∈ uw := mem_uw 652 (by decide +kernel) rfl
set_option maxRecDepth 100000 in
theorem q653 : Cond.selects "NextButOne" yX7_odds yX7_odds ∈ uw := mem_uw 653 (by decide +kernel) rfl
set_option maxRecDepth 100000 in
theorem q654 : Cond.code yX7_odds cX7_odds 8 (some .int) ∈ uw := mem_uw 654 rfl rfl
set_option maxRecDepth 100000 in
theorem q655 : Cond.methodLink "NextButOne" 228 yX2_takeFrom ∈ uw := mem_uw 655 (by decide +kernel) rfl
set_option maxRecDepth 100000 in
theorem q656 : Cond.instanceMethod yX2_takeFrom ∈ uw := mem_uw 656 (by decide +kernel) rfl
set_option maxRecDepth 100000 in
theorem q657 : Cond.selects "NextButOne$Realm" yX2_takeFrom yX2_takeFrom ∈ uw := mem_uw 657 (by decide +kernel) rfl
set_option maxRecDepth 100000 in
theorem q658 : Cond.code yX2_takeFrom cX2_takeFrom 2 none ∈ uw := mem_uw 658 rfl rfl
set_option maxRecDepth 100000 in
theorem q659 : Cond.methodLink "NextButOne$Realm" 35 yX1_takeFrom ∈ uw := mem_uw 659 (by decide +kernel) rfl
set_option maxRecDepth 100000 in
theorem q660 : Cond.instanceMethod yX1_takeFrom ∈ uw := mem_uw 660 (by decide +kernel) rfl
set_option maxRecDepth 100000 in
theorem q661 : Cond.selects "NextButOne$Folk" yX1_takeFrom yX1_takeFrom ∈ uw := mem_uw 661 (by decide +kernel) rfl
set_option maxRecDepth 100000 in
theorem q662 : Cond.code yX1_takeFrom cX1_takeFrom 2 none ∈ uw := mem_uw 662 rfl rfl
set_option maxRecDepth 100000 in
theorem q663 : Cond.methodLink "NextButOne$Folk" 40 (⟨"java/lang/System", "arraycopy", "(Ljava/lang/Object;ILjava/lang/Object;II)V"⟩ : MethodName) ∈ uw := mem_uw 663 (by decide +kernel) rfl
set_option maxRecDepth 100000 in
theorem q664 : Cond.methodLink "NextButOne$Realm" 39 yX3_takeFrom ∈ uw := mem_uw 664 (by decide +kernel) rfl
set_option maxRecDepth 100000 in
theorem q665 : Cond.instanceMethod yX3_takeFrom ∈ uw := mem_uw 665 (by decide +kernel) rfl
set_option maxRecDepth 100000 in
theorem q666 : Cond.selects "NextButOne$Script" yX3_takeFrom yX3_takeFrom ∈ uw := mem_uw 666 (by decide +kernel) rfl
set_option maxRecDepth 100000 in
theorem q667 : Cond.code yX3_takeFrom cX3_takeFrom 2 none ∈ uw := mem_uw 667 rfl rfl
set_option maxRecDepth 100000 in
theorem q668 : Cond.methodLink "NextButOne$Script" 22 (⟨"java/lang/System", "arraycopy", "(Ljava/lang/Object;ILjava/lang/Object;II)V"⟩ : MethodName) ∈ uw := mem_uw 668 (by decide +kernel) rfl
set_option maxRecDepth 100000 in
theorem q669 : Cond.methodLink "NextButOne$Realm" 42 yX4_takeFrom ∈ uw := mem_uw 669 (by decide +kernel) rfl
set_option maxRecDepth 100000 in
theorem q670 : Cond.methodLink "NextButOneLaw" 117 yX7_feed ∈ uw := mem_uw 670 (by decide +kernel) rfl
set_option maxRecDepth 100000 in
theorem q671 : Cond.instanceMethod yX7_feed ∈ uw := mem_uw 671 (by decide +kernel) rfl
set_option maxRecDepth 100000 in
theorem q672 : Cond.selects "NextButOne" yX7_feed yX7_feed ∈ uw := mem_uw 672 (by decide +kernel) rfl
set_option maxRecDepth 100000 in
theorem q673 : Cond.code yX7_feed cX7_feed 4 (some .int) ∈ uw := mem_uw 673 rfl rfl
set_option maxRecDepth 100000 in
theorem q674 : Cond.methodLink "NextButOne" 234 yX6_put ∈ uw := mem_uw 674 (by decide +kernel) rfl
set_option maxRecDepth 100000 in
theorem q675 : Cond.instanceMethod yX6_put ∈ uw := mem_uw 675 (by decide +kernel) rfl
set_option maxRecDepth 100000 in
theorem q676 : Cond.selects "NextButOne$Tape" yX6_put yX6_put ∈ uw := mem_uw 676 (by decide +kernel) rfl
set_option maxRecDepth 100000 in
theorem q677 : Cond.code yX6_put cX6_put 2 none ∈ uw := mem_uw 677 rfl rfl
set_option maxRecDepth 100000 in
theorem q678 : Cond.methodLink "NextButOneLaw" 121 yX7_wipe ∈ uw := mem_uw 678 (by decide +kernel) rfl
set_option maxRecDepth 100000 in
theorem q679 : Cond.instanceMethod yX7_wipe ∈ uw := mem_uw 679 (by decide +kernel) rfl
set_option maxRecDepth 100000 in
theorem q680 : Cond.selects "NextButOne" yX7_wipe yX7_wipe ∈ uw := mem_uw 680 (by decide +kernel) rfl
set_option maxRecDepth 100000 in
theorem q681 : Cond.code yX7_wipe cX7_wipe 2 (some .int) ∈ uw := mem_uw 681 rfl rfl
set_option maxRecDepth 100000 in
theorem q682 : Cond.methodLink "NextButOneLaw" 125 yX7_text ∈ uw := mem_uw 682 (by decide +kernel) rfl
set_option maxRecDepth 100000 in
theorem q683 : Cond.instanceMethod yX7_text ∈ uw := mem_uw 683 (by decide +kernel) rfl
set_option maxRecDepth 100000 in
theorem q684 : Cond.selects "NextButOne" yX7_text yX7_text ∈ uw := mem_uw 684 (by decide +kernel) rfl
set_option maxRecDepth 100000 in
theorem q685 : Cond.code yX7_text cX7_text 2 (some .int) ∈ uw := mem_uw 685 rfl rfl
set_option maxRecDepth 100000 in
theorem q686 : Cond.methodLink "NextButOne" 237 yX6_parse ∈ uw := mem_uw 686 (by decide +kernel) rfl
set_option maxRecDepth 100000 in
theorem q687 : Cond.instanceMethod yX6_parse ∈ uw := mem_uw 687 (by decide +kernel) rfl
set_option maxRecDepth 100000 in
theorem q688 : Cond.selects "NextButOne$Tape" yX6_parse yX6_parse ∈ uw := mem_uw 688 (by decide +kernel) rfl
set_option maxRecDepth 100000 in
theorem q689 : Cond.code yX6_parse cX6_parse 1 (some .boolean) ∈ uw := mem_uw 689 rfl rfl
set_option maxRecDepth 100000 in
theorem q690 : Cond.methodLink "NextButOne$Tape" 36 yX6_readT ∈ uw := mem_uw 690 (by decide +kernel) rfl
set_option maxRecDepth 100000 in
theorem q692 : Cond.instanceMethod yX6_readT ∈ uw := mem_uw 692 (by decide +kernel) rfl
set_option maxRecDepth 100000 in
theorem q693 : Cond.code yX6_readT cX6_readT 3 none ∈ uw := mem_uw 693 rfl rfl
set_option maxRecDepth 100000 in
theorem q694 : Cond.methodLink "NextButOne$Tape" 44 yX6_readA ∈ uw := mem_uw 694 (by decide +kernel) rfl
set_option maxRecDepth 100000 in
theorem q696 : Cond.instanceMethod yX6_readA ∈ uw := mem_uw 696 (by decide +kernel) rfl
set_option maxRecDepth 100000 in
theorem q697 : Cond.code yX6_readA cX6_readA 3 none ∈ uw := mem_uw 697 rfl rfl
set_option maxRecDepth 100000 in
theorem q698 : Cond.methodLink "NextButOne$Tape" 54 yX6_readB ∈ uw := mem_uw 698 (by decide +kernel) rfl
set_option maxRecDepth 100000 in
theorem q700 : Cond.instanceMethod yX6_readB ∈ uw := mem_uw 700 (by decide +kernel) rfl
set_option maxRecDepth 100000 in
theorem q701 : Cond.code yX6_readB cX6_readB 3 none ∈ uw := mem_uw 701 rfl rfl
set_option maxRecDepth 100000 in
theorem q702 : Cond.methodLink "NextButOne$Tape" 57 yX6_readS ∈ uw := mem_uw 702 (by decide +kernel) rfl
set_option maxRecDepth 100000 in
theorem q704 : Cond.instanceMethod yX6_readS ∈ uw := mem_uw 704 (by decide +kernel) rfl
set_option maxRecDepth 100000 in
theorem q705 : Cond.code yX6_readS cX6_readS 4 none ∈ uw := mem_uw 705 rfl rfl
set_option maxRecDepth 100000 in
theorem q706 : Cond.methodLink "NextButOne$Tape" 60 yX6_readP ∈ uw := mem_uw 706 (by decide +kernel) rfl
set_option maxRecDepth 100000 in
theorem q708 : Cond.instanceMethod yX6_readP ∈ uw := mem_uw 708 (by decide +kernel) rfl
set_option maxRecDepth 100000 in
theorem q709 : Cond.code yX6_readP cX6_readP 4 none ∈ uw := mem_uw 709 rfl rfl
set_option maxRecDepth 100000 in
theorem q710 : Cond.methodLink "NextButOne$Tape" 63 yX6_readQ ∈ uw := mem_uw 710 (by decide +kernel) rfl
set_option maxRecDepth 100000 in
theorem q712 : Cond.instanceMethod yX6_readQ ∈ uw := mem_uw 712 (by decide +kernel) rfl
set_option maxRecDepth 100000 in
theorem q713 : Cond.code yX6_readQ cX6_readQ 2 none ∈ uw := mem_uw 713 rfl rfl
set_option maxRecDepth 100000 in
theorem q714 : Cond.methodLink "NextButOne$Tape" 66 yX6_seesDigit ∈ uw := mem_uw 714 (by decide +kernel) rfl
set_option maxRecDepth 100000 in
theorem q716 : Cond.instanceMethod yX6_seesDigit ∈ uw := mem_uw 716 (by decide +kernel) rfl
set_option maxRecDepth 100000 in
theorem q717 : Cond.code yX6_seesDigit cX6_seesDigit 1 (some .boolean) ∈ uw := mem_uw 717 rfl rfl
set_option maxRecDepth 100000 in
theorem q718 : Cond.methodLink "NextButOne$Tape" 70 yX6_readNumber ∈ uw := mem_uw 718 (by decide +kernel) rfl
set_option maxRecDepth 100000 in
theorem q720 : Cond.instanceMethod yX6_readNumber ∈ uw := mem_uw 720 (by decide +kernel) rfl
set_option maxRecDepth 100000 in
theorem q721 : Cond.code yX6_readNumber cX6_readNumber 3 none ∈ uw := mem_uw 721 rfl rfl
set_option maxRecDepth 100000 in
theorem q722 : Cond.methodLink "NextButOne$Tape" 81 yX3_putNumber ∈ uw := mem_uw 722 (by decide +kernel) rfl
set_option maxRecDepth 100000 in
theorem q723 : Cond.instanceMethod yX3_putNumber ∈ uw := mem_uw 723 (by decide +kernel) rfl
set_option maxRecDepth 100000 in
theorem q724 : Cond.selects "NextButOne$Script" yX3_putNumber yX3_putNumber ∈ uw := mem_uw 724 (by decide +kernel) rfl
set_option maxRecDepth 100000 in
theorem q725 : Cond.code yX3_putNumber cX3_putNumber 2 none ∈ uw := mem_uw 725 rfl rfl
set_option maxRecDepth 100000 in
theorem q727 : Cond.methodLink "NextButOne$Tape" 75 yJ0_indexOf_0f7a4 ∈ uw := mem_uw 727 (by decide +kernel) rfl
set_option maxRecDepth 100000 in
theorem q728 : Cond.instanceMethod yJ0_indexOf_0f7a4 ∈ uw := mem_uw 728 (by decide +kernel) rfl
set_option maxRecDepth 100000 in
theorem q729 : Cond.selects "java/lang/String" yJ0_indexOf_0f7a4 yJ0_indexOf_0f7a4 ∈ uw := mem_uw 729 (by decide +kernel) rfl
set_option maxRecDepth 100000 in
theorem q730 : Cond.code yJ0_indexOf_0f7a4 cJ0_indexOf_0f7a4 2 (some .int) ∈ uw := mem_uw 730 rfl rfl
set_option maxRecDepth 100000 in
theorem q731 : Cond.methodLink "java/lang/String" 633 yJ0_indexOf_7cf53 ∈ uw := mem_uw 731 (by decide +kernel) rfl
set_option maxRecDepth 100000 in
theorem q732 : Cond.instanceMethod yJ0_indexOf_7cf53 ∈ uw := mem_uw 732 (by decide +kernel) rfl
set_option maxRecDepth 100000 in
theorem q733 : Cond.selects "java/lang/String" yJ0_indexOf_7cf53 yJ0_indexOf_7cf53 ∈ uw := mem_uw 733 (by decide +kernel) rfl
set_option maxRecDepth 100000 in
theorem q734 : Cond.code yJ0_indexOf_7cf53 cJ0_indexOf_7cf53 3 (some .int) ∈ uw := mem_uw 734 rfl rfl
set_option maxRecDepth 100000 in
theorem q735 : Cond.methodLink "java/lang/String" 492 yJ0_isLatin1_aae02 ∈ uw := mem_uw 735 (by decide +kernel) rfl
set_option maxRecDepth 100000 in
theorem q736 : Cond.instanceMethod yJ0_isLatin1_aae02 ∈ uw := mem_uw 736 (by decide +kernel) rfl
set_option maxRecDepth 100000 in
theorem q737 : Cond.selects "java/lang/String" yJ0_isLatin1_aae02 yJ0_isLatin1_aae02 ∈ uw := mem_uw 737 (by decide +kernel) rfl
set_option maxRecDepth 100000 in
theorem q738 : Cond.code yJ0_isLatin1_aae02 cJ0_isLatin1_aae02 1 (some .boolean) ∈ uw := mem_uw 738 rfl rfl
set_option maxRecDepth 100000 in
theorem q739 : Cond.fieldLink "java/lang/String" 38 "java/lang/String" "COMPACT_STRINGS" "Z" ∈ uw := mem_uw 739 (by decide +kernel) rfl
set_option maxRecDepth 100000 in
theorem q741 : Cond.methodLink "java/lang/String" 505 yJ0_length_8abf5 ∈ uw := mem_uw 741 (by decide +kernel) rfl
set_option maxRecDepth 100000 in
theorem q742 : Cond.instanceMethod yJ0_length_8abf5 ∈ uw := mem_uw 742 (by decide +kernel) rfl
set_option maxRecDepth 100000 in
theorem q743 : Cond.selects "java/lang/String" yJ0_length_8abf5 yJ0_length_8abf5 ∈ uw := mem_uw 743 (by decide +kernel) rfl
set_option maxRecDepth 100000 in
theorem q744 : Cond.code yJ0_length_8abf5 cJ0_length_8abf5 1 (some .int) ∈ uw := mem_uw 744 rfl rfl
set_option maxRecDepth 100000 in
theorem q745 : Cond.methodLink "java/lang/String" 335 yJ0_coder_7d493 ∈ uw := mem_uw 745 (by decide +kernel) rfl
set_option maxRecDepth 100000 in
theorem q746 : Cond.instanceMethod yJ0_coder_7d493 ∈ uw := mem_uw 746 (by decide +kernel) rfl
set_option maxRecDepth 100000 in
theorem q747 : Cond.selects "java/lang/String" yJ0_coder_7d493 yJ0_coder_7d493 ∈ uw := mem_uw 747 (by decide +kernel) rfl
set_option maxRecDepth 100000 in
theorem q748 : Cond.code yJ0_coder_7d493 cJ0_coder_7d493 1 (some .byte) ∈ uw := mem_uw 748 rfl rfl
set_option maxRecDepth 100000 in
theorem q749 : Cond.methodLink "java/lang/String" 637 yJ1_indexOf_4cfef ∈ uw := mem_uw 749 (by decide +kernel) rfl
set_option maxRecDepth 100000 in
theorem q750 : Cond.static yJ1_indexOf_4cfef ∈ uw := mem_uw 750 (by decide +kernel) rfl
set_option maxRecDepth 100000 in
theorem q751 : Cond.code yJ1_indexOf_4cfef cJ1_indexOf_4cfef 4 (some .int) ∈ uw := mem_uw 751 rfl rfl
set_option maxRecDepth 100000 in
theorem q752 : Cond.methodLink "java/lang/StringLatin1" 88 yJ1_canEncode_9a6ad ∈ uw := mem_uw 752 (by decide +kernel) rfl
set_option maxRecDepth 100000 in
theorem q753 : Cond.static yJ1_canEncode_9a6ad ∈ uw := mem_uw 753 (by decide +kernel) rfl
set_option maxRecDepth 100000 in
theorem q754 : Cond.code yJ1_canEncode_9a6ad cJ1_canEncode_9a6ad 1 (some .boolean) ∈ uw := mem_uw 754 rfl rfl
set_option maxRecDepth 100000 in
theorem q755 : Cond.methodLink "java/lang/StringLatin1" 92 yJ9_max_7cf53 ∈ uw := mem_uw 755 (by decide +kernel) rfl
set_option maxRecDepth 100000 in
theorem q756 : Cond.static yJ9_max_7cf53 ∈ uw := mem_uw 756 (by decide +kernel) rfl
set_option maxRecDepth 100000 in
theorem q757 : Cond.code yJ9_max_7cf53 cJ9_max_7cf53 2 (some .int) ∈ uw := mem_uw 757 rfl rfl
set_option maxRecDepth 100000 in
theorem q758 : Cond.methodLink "java/lang/StringLatin1" 38 yJ9_min_7cf53 ∈ uw := mem_uw 758 (by decide +kernel) rfl
set_option maxRecDepth 100000 in
theorem q759 : Cond.static yJ9_min_7cf53 ∈ uw := mem_uw 759 (by decide +kernel) rfl
set_option maxRecDepth 100000 in
theorem q760 : Cond.code yJ9_min_7cf53 cJ9_min_7cf53 2 (some .int) ∈ uw := mem_uw 760 rfl rfl
set_option maxRecDepth 100000 in
theorem q761 : Cond.methodLink "java/lang/StringLatin1" 95 yJ1_indexOfChar_4cfef ∈ uw := mem_uw 761 (by decide +kernel) rfl
set_option maxRecDepth 100000 in
theorem q762 : Cond.static yJ1_indexOfChar_4cfef ∈ uw := mem_uw 762 (by decide +kernel) rfl
set_option maxRecDepth 100000 in
theorem q763 : Cond.code yJ1_indexOfChar_4cfef cJ1_indexOfChar_4cfef 6 (some .int) ∈ uw := mem_uw 763 rfl rfl
set_option maxRecDepth 100000 in
theorem q764 : Cond.methodLink "java/lang/String" 640 yJ2_indexOf_4cfef ∈ uw := mem_uw 764 (by decide +kernel) rfl
set_option maxRecDepth 100000 in
theorem q765 : Cond.static yJ2_indexOf_4cfef ∈ uw := mem_uw 765 (by decide +kernel) rfl
set_option maxRecDepth 100000 in
theorem q766 : Cond.code yJ2_indexOf_4cfef cJ2_indexOf_4cfef 4 (some .int) ∈ uw := mem_uw 766 rfl rfl
set_option maxRecDepth 100000 in
theorem q767 : Cond.methodLink "java/lang/StringUTF16" 224 yJ9_max_7cf53 ∈ uw := mem_uw 767 (by decide +kernel) rfl
set_option maxRecDepth 100000 in
theorem q768 : Cond.methodLink "java/lang/StringUTF16" 183 yJ9_min_7cf53 ∈ uw := mem_uw 768 (by decide +kernel) rfl
set_option maxRecDepth 100000 in
theorem q769 : Cond.constant "java/lang/StringUTF16" 227 65536 ∈ uw := mem_uw 769 (by decide +kernel) rfl
set_option maxRecDepth 100000 in
theorem q770 : Cond.methodLink "java/lang/StringUTF16" 228 yJ2_indexOfChar_4cfef ∈ uw := mem_uw 770 (by decide +kernel) rfl
set_option maxRecDepth 100000 in
theorem q771 : Cond.static yJ2_indexOfChar_4cfef ∈ uw := mem_uw 771 (by decide +kernel) rfl
set_option maxRecDepth 100000 in
theorem q772 : Cond.code yJ2_indexOfChar_4cfef cJ2_indexOfChar_4cfef 4 (some .int) ∈ uw := mem_uw 772 rfl rfl
set_option maxRecDepth 100000 in
theorem q773 : Cond.methodLink "java/lang/StringUTF16" 96 yJ2_checkBoundsBeginEnd_d044e ∈ uw := mem_uw 773 (by decide +kernel) rfl
set_option maxRecDepth 100000 in
theorem q774 : Cond.static yJ2_checkBoundsBeginEnd_d044e ∈ uw := mem_uw 774 (by decide +kernel) rfl
set_option maxRecDepth 100000 in
theorem q775 : Cond.code yJ2_checkBoundsBeginEnd_d044e cJ2_checkBoundsBeginEnd_d044e 3 none ∈ uw := mem_uw 775 rfl rfl
set_option maxRecDepth 100000 in
theorem q776 : Cond.methodLink "java/lang/StringUTF16" 48 yJ2_length_9d52b ∈ uw := mem_uw 776 (by decide +kernel) rfl
set_option maxRecDepth 100000 in
theorem q777 : Cond.static yJ2_length_9d52b ∈ uw := mem_uw 777 (by decide +kernel) rfl
set_option maxRecDepth 100000 in
theorem q778 : Cond.code yJ2_length_9d52b cJ2_length_9d52b 1 (some .int) ∈ uw := mem_uw 778 rfl rfl
set_option maxRecDepth 100000 in
theorem q779 : Cond.methodLink "java/lang/StringUTF16" 241 yJ0_checkBoundsBeginEnd_23922 ∈ uw := mem_uw 779 (by decide +kernel) rfl
set_option maxRecDepth 100000 in
theorem q780 : Cond.static yJ0_checkBoundsBeginEnd_23922 ∈ uw := mem_uw 780 (by decide +kernel) rfl
set_option maxRecDepth 100000 in
theorem q781 : Cond.code yJ0_checkBoundsBeginEnd_23922 cJ0_checkBoundsBeginEnd_23922 3 none ∈ uw := mem_uw 781 rfl rfl
set_option maxRecDepth 100000 in
theorem q782 : Cond.fieldLink "java/lang/String" 1053 "jdk/internal/util/Preconditions" "SIOOBE_FORMATTER" "Ljava/util/function/BiFunction;" ∈ uw := mem_uw 782 (by decide +kernel) rfl
set_option maxRecDepth 100000 in
theorem q784 : Cond.methodLink "java/lang/String" 1062 yJ3_checkFromToIndex_8c36e ∈ uw := mem_uw 784 (by decide +kernel) rfl
set_option maxRecDepth 100000 in
theorem q785 : Cond.static yJ3_checkFromToIndex_8c36e ∈ uw := mem_uw 785 (by decide +kernel) rfl
set_option maxRecDepth 100000 in
theorem q786 : Cond.code yJ3_checkFromToIndex_8c36e cJ3_checkFromToIndex_8c36e 4 (some .int) ∈ uw := mem_uw 786 rfl rfl
set_option maxRecDepth 100000 in
theorem q787 : Cond.methodLink "java/lang/StringUTF16" 244 yJ2_indexOfCharUnsafe_4cfef ∈ uw := mem_uw 787 (by decide +kernel) rfl
set_option maxRecDepth 100000 in
theorem q788 : Cond.static yJ2_indexOfCharUnsafe_4cfef ∈ uw := mem_uw 788 (by decide +kernel) rfl
set_option maxRecDepth 100000 in
theorem q789 : Cond.code yJ2_indexOfCharUnsafe_4cfef cJ2_indexOfCharUnsafe_4cfef 5 (some .int) ∈ uw := mem_uw 789 rfl rfl
set_option maxRecDepth 100000 in
theorem q790 : Cond.methodLink "java/lang/StringUTF16" 71 yJ2_getChar_3b067 ∈ uw := mem_uw 790 (by decide +kernel) rfl
set_option maxRecDepth 100000 in
theorem q791 : Cond.static yJ2_getChar_3b067 ∈ uw := mem_uw 791 (by decide +kernel) rfl
set_option maxRecDepth 100000 in
theorem q792 : Cond.code yJ2_getChar_3b067 cJ2_getChar_3b067 2 (some .char) ∈ uw := mem_uw 792 rfl rfl
set_option maxRecDepth 100000 in
theorem q793 : Cond.fieldLink "java/lang/StringUTF16" 44 "java/lang/StringUTF16" "$assertionsDisabled" "Z" ∈ uw := mem_uw 793 (by decide +kernel) rfl
set_option maxRecDepth 100000 in
theorem q795 : Cond.fieldLink "java/lang/StringUTF16" 59 "java/lang/StringUTF16" "HI_BYTE_SHIFT" "I" ∈ uw := mem_uw 795 (by decide +kernel) rfl
set_option maxRecDepth 100000 in
theorem q797 : Cond.fieldLink "java/lang/StringUTF16" 63 "java/lang/StringUTF16" "LO_BYTE_SHIFT" "I" ∈ uw := mem_uw 797 (by decide +kernel) rfl
set_option maxRecDepth 100000 in
theorem q799 : Cond.methodLink "java/lang/StringUTF16" 232 yJ2_indexOfSupplementary_4cfef ∈ uw := mem_uw 799 (by decide +kernel) rfl
set_option maxRecDepth 100000 in
theorem q800 : Cond.static yJ2_indexOfSupplementary_4cfef ∈ uw := mem_uw 800 (by decide +kernel) rfl
set_option maxRecDepth 100000 in
theorem q801 : Cond.code yJ2_indexOfSupplementary_4cfef cJ2_indexOfSupplementary_4cfef 7 (some .int) ∈ uw := mem_uw 801 rfl rfl
set_option maxRecDepth 100000 in
theorem q802 : Cond.methodLink "java/lang/StringUTF16" 164 yJ11_isValidCodePoint_9a6ad ∈ uw := mem_uw 802 (by decide +kernel) rfl
set_option maxRecDepth 100000 in
theorem q803 : Cond.static yJ11_isValidCodePoint_9a6ad ∈ uw := mem_uw 803 (by decide +kernel) rfl
set_option maxRecDepth 100000 in
theorem q804 : Cond.code yJ11_isValidCodePoint_9a6ad cJ11_isValidCodePoint_9a6ad 2 (some .boolean) ∈ uw := mem_uw 804 rfl rfl
set_option maxRecDepth 100000 in
theorem q805 : Cond.methodLink "java/lang/StringUTF16" 157 yJ11_highSurrogate_5068e ∈ uw := mem_uw 805 (by decide +kernel) rfl
set_option maxRecDepth 100000 in
theorem q806 : Cond.static yJ11_highSurrogate_5068e ∈ uw := mem_uw 806 (by decide +kernel) rfl
set_option maxRecDepth 100000 in
theorem q807 : Cond.code yJ11_highSurrogate_5068e cJ11_highSurrogate_5068e 1 (some .char) ∈ uw := mem_uw 807 rfl rfl
set_option maxRecDepth 100000 in
theorem q808 : Cond.constant "java/lang/Character" 110 55232 ∈ uw := mem_uw 808 (by decide +kernel) rfl
set_option maxRecDepth 100000 in
theorem q809 : Cond.methodLink "java/lang/StringUTF16" 161 yJ11_lowSurrogate_5068e ∈ uw := mem_uw 809 (by decide +kernel) rfl
set_option maxRecDepth 100000 in
theorem q810 : Cond.static yJ11_lowSurrogate_5068e ∈ uw := mem_uw 810 (by decide +kernel) rfl
set_option maxRecDepth 100000 in
theorem q811 : Cond.code yJ11_lowSurrogate_5068e cJ11_lowSurrogate_5068e 1 (some .char) ∈ uw := mem_uw 811 rfl rfl
set_option maxRecDepth 100000 in
theorem q812 : Cond.constant "java/lang/Character" 76 56320 ∈ uw := mem_uw 812 (by decide +kernel) rfl
set_option maxRecDepth 100000 in
theorem q813 : Cond.methodLink "NextButOne$Tape" 50 yX3_putSign ∈ uw := mem_uw 813 (by decide +kernel) rfl
set_option maxRecDepth 100000 in
theorem q814 : Cond.instanceMethod yX3_putSign ∈ uw := mem_uw 814 (by decide +kernel) rfl
set_option maxRecDepth 100000 in
theorem q815 : Cond.selects "NextButOne$Script" yX3_putSign yX3_putSign ∈ uw := mem_uw 815 (by decide +kernel) rfl
set_option maxRecDepth 100000 in
theorem q816 : Cond.code yX3_putSign cX3_putSign 2 none ∈ uw := mem_uw 816 rfl rfl
set_option maxRecDepth 100000 in
theorem q817 : Cond.methodLink "NextButOne$Script" 28 yX3_putNumber ∈ uw := mem_uw 817 (by decide +kernel) rfl
set_option maxRecDepth 100000 in
theorem q818 : Cond.methodLink "NextButOne$Tape" 47 yX6_takes ∈ uw := mem_uw 818 (by decide +kernel) rfl
set_option maxRecDepth 100000 in
theorem q820 : Cond.instanceMethod yX6_takes ∈ uw := mem_uw 820 (by decide +kernel) rfl
set_option maxRecDepth 100000 in
theorem q821 : Cond.code yX6_takes cX6_takes 3 (some .boolean) ∈ uw := mem_uw 821 rfl rfl
set_option maxRecDepth 100000 in
theorem q822 : Cond.methodLink "NextButOne$Tape" 40 yX6_sees ∈ uw := mem_uw 822 (by decide +kernel) rfl
set_option maxRecDepth 100000 in
theorem q824 : Cond.instanceMethod yX6_sees ∈ uw := mem_uw 824 (by decide +kernel) rfl
set_option maxRecDepth 100000 in
theorem q825 : Cond.code yX6_sees cX6_sees 2 (some .boolean) ∈ uw := mem_uw 825 rfl rfl
set_option maxRecDepth 100000 in
theorem q826 : Cond.methodLink "NextButOne" 250 yX3_takeFrom ∈ uw := mem_uw 826 (by decide +kernel) rfl
set_option maxRecDepth 100000 in
theorem q827 : Cond.arrayClass FieldType.byte ∈ uw := mem_uw 827 (by decide +kernel) rfl
set_option maxRecDepth 100000 in
theorem q828 : Cond.methodLink "NextButOneLaw" 129 yX7_gives ∈ uw := mem_uw 828 (by decide +kernel) rfl
set_option maxRecDepth 100000 in
theorem q829 : Cond.instanceMethod yX7_gives ∈ uw := mem_uw 829 (by decide +kernel) rfl
set_option maxRecDepth 100000 in
theorem q830 : Cond.selects "NextButOne" yX7_gives yX7_gives ∈ uw := mem_uw 830 (by decide +kernel) rfl
set_option maxRecDepth 100000 in
theorem q831 : Cond.code yX7_gives cX7_gives 3 (some .int) ∈ uw := mem_uw 831 rfl rfl
set_option maxRecDepth 100000 in
theorem q832 : Cond.methodLink "NextButOne" 255 yX3_isThere ∈ uw := mem_uw 832 (by decide +kernel) rfl
set_option maxRecDepth 100000 in
theorem q833 : Cond.methodLink "NextButOne" 258 yX3_work ∈ uw := mem_uw 833 (by decide +kernel) rfl
set_option maxRecDepth 100000 in
theorem q834 : Cond.methodLink "NextButOneLaw" 133 yX7_untell ∈ uw := mem_uw 834 (by decide +kernel) rfl
set_option maxRecDepth 100000 in
theorem q835 : Cond.instanceMethod yX7_untell ∈ uw := mem_uw 835 (by decide +kernel) rfl
set_option maxRecDepth 100000 in
theorem q836 : Cond.selects "NextButOne" yX7_untell yX7_untell ∈ uw := mem_uw 836 (by decide +kernel) rfl
set_option maxRecDepth 100000 in
theorem q837 : Cond.code yX7_untell cX7_untell 2 (some .int) ∈ uw := mem_uw 837 rfl rfl
set_option maxRecDepth 100000 in
theorem q838 : Cond.methodLink "NextButOneLaw" 137 yX7_sheet ∈ uw := mem_uw 838 (by decide +kernel) rfl
set_option maxRecDepth 100000 in
theorem q839 : Cond.instanceMethod yX7_sheet ∈ uw := mem_uw 839 (by decide +kernel) rfl
set_option maxRecDepth 100000 in
theorem q840 : Cond.selects "NextButOne" yX7_sheet yX7_sheet ∈ uw := mem_uw 840 (by decide +kernel) rfl
set_option maxRecDepth 100000 in
theorem q841 : Cond.code yX7_sheet cX7_sheet 4 (some .int) ∈ uw := mem_uw 841 rfl rfl
set_option maxRecDepth 100000 in
theorem q842 : Cond.methodLink "NextButOne" 265 yX7_isSheet ∈ uw := mem_uw 842 (by decide +kernel) rfl
set_option maxRecDepth 100000 in
theorem q843 : Cond.static yX7_isSheet ∈ uw := mem_uw 843 (by decide +kernel) rfl
set_option maxRecDepth 100000 in
theorem q844 : Cond.code yX7_isSheet cX7_isSheet 1 (some .boolean) ∈ uw := mem_uw 844 rfl rfl
set_option maxRecDepth 100000 in
theorem q845 : Cond.constant "NextButOne" 268 (-1000000007) ∈ uw := mem_uw 845 (by decide +kernel) rfl
set_option maxRecDepth 100000 in
theorem q846 : Cond.methodLink "NextButOne" 269 yX5_lay ∈ uw := mem_uw 846 (by decide +kernel) rfl
set_option maxRecDepth 100000 in
theorem q847 : Cond.instanceMethod yX5_lay ∈ uw := mem_uw 847 (by decide +kernel) rfl
set_option maxRecDepth 100000 in
theorem q848 : Cond.selects "NextButOne$Sheet" yX5_lay yX5_lay ∈ uw := mem_uw 848 (by decide +kernel) rfl
set_option maxRecDepth 100000 in
theorem q849 : Cond.code yX5_lay cX5_lay 3 none ∈ uw := mem_uw 849 rfl rfl
set_option maxRecDepth 100000 in
theorem q850 : Cond.methodLink "NextButOne$Sheet" 22 yJ7_fill_d0a16 ∈ uw := mem_uw 850 (by decide +kernel) rfl
set_option maxRecDepth 100000 in
theorem q851 : Cond.static yJ7_fill_d0a16 ∈ uw := mem_uw 851 (by decide +kernel) rfl
set_option maxRecDepth 100000 in
theorem q852 : Cond.code yJ7_fill_d0a16 cJ7_fill_d0a16 5 none ∈ uw := mem_uw 852 rfl rfl
set_option maxRecDepth 100000 in
theorem q853 : Cond.methodLink "NextButOneLaw" 143 yX7_write ∈ uw := mem_uw 853 (by decide +kernel) rfl
set_option maxRecDepth 100000 in
theorem q854 : Cond.instanceMethod yX7_write ∈ uw := mem_uw 854 (by decide +kernel) rfl
set_option maxRecDepth 100000 in
theorem q855 : Cond.selects "NextButOne" yX7_write yX7_write ∈ uw := mem_uw 855 (by decide +kernel) rfl
set_option maxRecDepth 100000 in
theorem q856 : Cond.code yX7_write cX7_write 7 (some .long) ∈ uw := mem_uw 856 rfl rfl
set_option maxRecDepth 100000 in
theorem q857 : Cond.methodLink "NextButOne" 273 yX5_isMissing ∈ uw := mem_uw 857 (by decide +kernel) rfl
set_option maxRecDepth 100000 in
theorem q858 : Cond.instanceMethod yX5_isMissing ∈ uw := mem_uw 858 (by decide +kernel) rfl
set_option maxRecDepth 100000 in
theorem q859 : Cond.selects "NextButOne$Sheet" yX5_isMissing yX5_isMissing ∈ uw := mem_uw 859 (by decide +kernel) rfl
set_option maxRecDepth 100000 in
theorem q860 : Cond.code yX5_isMissing cX5_isMissing 1 (some .boolean) ∈ uw := mem_uw 860 rfl rfl
set_option maxRecDepth 100000 in
theorem q861 : Cond.constant "NextButOne" 276 (-1000000006) ∈ uw := mem_uw 861 (by decide +kernel) rfl
set_option maxRecDepth 100000 in
theorem q862 : Cond.methodLink "NextButOne" 281 yX5_lowest ∈ uw := mem_uw 862 (by decide +kernel) rfl
set_option maxRecDepth 100000 in
theorem q863 : Cond.instanceMethod yX5_lowest ∈ uw := mem_uw 863 (by decide +kernel) rfl
set_option maxRecDepth 100000 in
theorem q864 : Cond.selects "NextButOne$Sheet" yX5_lowest yX5_lowest ∈ uw := mem_uw 864 (by decide +kernel) rfl
set_option maxRecDepth 100000 in
theorem q865 : Cond.code yX5_lowest cX5_lowest 3 (some .long) ∈ uw := mem_uw 865 rfl rfl
set_option maxRecDepth 100000 in
theorem q866 : Cond.methodLink "NextButOneLaw" 148 yX7_copy ∈ uw := mem_uw 866 (by decide +kernel) rfl
set_option maxRecDepth 100000 in
theorem q867 : Cond.instanceMethod yX7_copy ∈ uw := mem_uw 867 (by decide +kernel) rfl
set_option maxRecDepth 100000 in
theorem q868 : Cond.selects "NextButOne" yX7_copy yX7_copy ∈ uw := mem_uw 868 (by decide +kernel) rfl
set_option maxRecDepth 100000 in
theorem q869 : Cond.code yX7_copy cX7_copy 6 (some .int) ∈ uw := mem_uw 869 rfl rfl
set_option maxRecDepth 100000 in
theorem q870 : Cond.methodLink "NextButOne" 288 yX5_holds ∈ uw := mem_uw 870 (by decide +kernel) rfl
set_option maxRecDepth 100000 in
theorem q871 : Cond.instanceMethod yX5_holds ∈ uw := mem_uw 871 (by decide +kernel) rfl
set_option maxRecDepth 100000 in
theorem q872 : Cond.selects "NextButOne$Sheet" yX5_holds yX5_holds ∈ uw := mem_uw 872 (by decide +kernel) rfl
set_option maxRecDepth 100000 in
theorem q873 : Cond.code yX5_holds cX5_holds 3 (some .boolean) ∈ uw := mem_uw 873 rfl rfl
set_option maxRecDepth 100000 in
theorem q874 : Cond.methodLink "NextButOne" 291 (⟨"java/lang/System", "arraycopy", "(Ljava/lang/Object;ILjava/lang/Object;II)V"⟩ : MethodName) ∈ uw := mem_uw 874 (by decide +kernel) rfl
set_option maxRecDepth 100000 in
theorem q875 : Cond.methodLink "NextButOneLaw" 153 yX7_lays ∈ uw := mem_uw 875 (by decide +kernel) rfl
set_option maxRecDepth 100000 in
theorem q876 : Cond.instanceMethod yX7_lays ∈ uw := mem_uw 876 (by decide +kernel) rfl
set_option maxRecDepth 100000 in
theorem q877 : Cond.selects "NextButOne" yX7_lays yX7_lays ∈ uw := mem_uw 877 (by decide +kernel) rfl
set_option maxRecDepth 100000 in
theorem q878 : Cond.code yX7_lays cX7_lays 8 (some .int) ∈ uw := mem_uw 878 rfl rfl
set_option maxRecDepth 100000 in
theorem q879 : Cond.methodLink "NextButOne" 297 yJ9_min_7cf53 ∈ uw := mem_uw 879 (by decide +kernel) rfl
set_option maxRecDepth 100000 in
theorem q880 : Cond.constantLong "NextButOne" 302 (-9) ∈ uw := mem_uw 880 (by decide +kernel) rfl
set_option maxRecDepth 100000 in
theorem q881 : Cond.constantLong "NextButOne" 304 9 ∈ uw := mem_uw 881 (by decide +kernel) rfl
set_option maxRecDepth 100000 in
theorem q882 : Cond.methodLink "NextButOneLaw" 157 yX7_read ∈ uw := mem_uw 882 (by decide +kernel) rfl
set_option maxRecDepth 100000 in
theorem q883 : Cond.instanceMethod yX7_read ∈ uw := mem_uw 883 (by decide +kernel) rfl
set_option maxRecDepth 100000 in
theorem q884 : Cond.selects "NextButOne" yX7_read yX7_read ∈ uw := mem_uw 884 (by decide +kernel) rfl
set_option maxRecDepth 100000 in
theorem q885 : Cond.code yX7_read cX7_read 3 (some .int) ∈ uw := mem_uw 885 rfl rfl
set_option maxRecDepth 100000 in
theorem q886 : Cond.methodLink "NextButOneLaw" 161 yX7_image ∈ uw := mem_uw 886 (by decide +kernel) rfl
set_option maxRecDepth 100000 in
theorem q887 : Cond.instanceMethod yX7_image ∈ uw := mem_uw 887 (by decide +kernel) rfl
set_option maxRecDepth 100000 in
theorem q888 : Cond.selects "NextButOne" yX7_image yX7_image ∈ uw := mem_uw 888 (by decide +kernel) rfl
set_option maxRecDepth 100000 in
theorem q889 : Cond.code yX7_image cX7_image 1 (some .int) ∈ uw := mem_uw 889 rfl rfl
set_option maxRecDepth 100000 in
theorem q890 : Cond.methodLink "NextButOneLaw" 165 yX7_undo ∈ uw := mem_uw 890 (by decide +kernel) rfl
set_option maxRecDepth 100000 in
theorem q891 : Cond.instanceMethod yX7_undo ∈ uw := mem_uw 891 (by decide +kernel) rfl
set_option maxRecDepth 100000 in
theorem q892 : Cond.selects "NextButOne" yX7_undo yX7_undo ∈ uw := mem_uw 892 (by decide +kernel) rfl
set_option maxRecDepth 100000 in
theorem q893 : Cond.code yX7_undo cX7_undo 1 (some .int) ∈ uw := mem_uw 893 rfl rfl
set_option maxRecDepth 100000 in
theorem q894 : Cond.methodLink "NextButOneLaw" 169 yX7_tear ∈ uw := mem_uw 894 (by decide +kernel) rfl
set_option maxRecDepth 100000 in
theorem q895 : Cond.instanceMethod yX7_tear ∈ uw := mem_uw 895 (by decide +kernel) rfl
set_option maxRecDepth 100000 in
theorem q896 : Cond.selects "NextButOne" yX7_tear yX7_tear ∈ uw := mem_uw 896 (by decide +kernel) rfl
set_option maxRecDepth 100000 in
theorem q897 : Cond.code yX7_tear cX7_tear 2 (some .int) ∈ uw := mem_uw 897 rfl rfl
set_option maxRecDepth 100000 in
theorem q898 : Cond.methodLink "NextButOneLaw" 173 yX7_count ∈ uw := mem_uw 898 (by decide +kernel) rfl
set_option maxRecDepth 100000 in
theorem q899 : Cond.instanceMethod yX7_count ∈ uw := mem_uw 899 (by decide +kernel) rfl
set_option maxRecDepth 100000 in
theorem q900 : Cond.selects "NextButOne" yX7_count yX7_count ∈ uw := mem_uw 900 (by decide +kernel) rfl
set_option maxRecDepth 100000 in
theorem q901 : Cond.code yX7_count cX7_count 2 (some .int) ∈ uw := mem_uw 901 rfl rfl
set_option maxRecDepth 100000 in
theorem q902 : Cond.methodLink "NextButOne" 306 yX4_named ∈ uw := mem_uw 902 (by decide +kernel) rfl
set_option maxRecDepth 100000 in
theorem q903 : Cond.methodLink "NextButOne" 309 yX4_ruledByAll ∈ uw := mem_uw 903 (by decide +kernel) rfl
set_option maxRecDepth 100000 in
theorem q904 : Cond.instanceMethod yX4_ruledByAll ∈ uw := mem_uw 904 (by decide +kernel) rfl
set_option maxRecDepth 100000 in
theorem q905 : Cond.selects "NextButOne$Seat" yX4_ruledByAll yX4_ruledByAll ∈ uw := mem_uw 905 (by decide +kernel) rfl
set_option maxRecDepth 100000 in
theorem q906 : Cond.code yX4_ruledByAll cX4_ruledByAll 3 (some .int) ∈ uw := mem_uw 906 rfl rfl
set_option maxRecDepth 100000 in
theorem q907 : Cond.methodLink "NextButOneLaw" 177 yX7_status ∈ uw := mem_uw 907 (by decide +kernel) rfl
set_option maxRecDepth 100000 in
theorem q908 : Cond.instanceMethod yX7_status ∈ uw := mem_uw 908 (by decide +kernel) rfl
set_option maxRecDepth 100000 in
theorem q909 : Cond.selects "NextButOne" yX7_status yX7_status ∈ uw := mem_uw 909 (by decide +kernel) rfl
set_option maxRecDepth 100000 in
theorem q910 : Cond.code yX7_status cX7_status 4 (some .int) ∈ uw := mem_uw 910 rfl rfl
set_option maxRecDepth 100000 in
theorem q911 : Cond.classLink "NextButOneLaw" 10 "NextButOneModel" ∈ uw := mem_uw 911 (by decide +kernel) rfl
set_option maxRecDepth 100000 in
theorem q912 : Cond.instantiable "NextButOneModel" 26 ∈ uw := mem_uw 912 (by decide +kernel) rfl
set_option maxRecDepth 100000 in
theorem q913 : Cond.methodLink "NextButOneLaw" 12 yX8_init ∈ uw := mem_uw 913 (by decide +kernel) rfl
set_option maxRecDepth 100000 in
theorem q914 : Cond.instanceMethod yX8_init ∈ uw := mem_uw 914 (by decide +kernel) rfl
set_option maxRecDepth 100000 in
theorem q915 : Cond.code yX8_init cX8_init 2 none ∈ uw := mem_uw 915 rfl rfl
set_option maxRecDepth 100000 in
theorem q916 : Cond.methodLink "NextButOneModel" 1 (⟨"java/lang/Object", "<init>", "()V"⟩ : MethodName) ∈ uw := mem_uw 916 (by decide +kernel) rfl
set_option maxRecDepth 100000 in
theorem q917 : Cond.fieldLink "NextButOneModel" 7 "NextButOneModel" "s" "[I" ∈ uw := mem_uw 917 (by decide +kernel) rfl
set_option maxRecDepth 100000 in
theorem q918 : Cond.fieldLink "NextButOneModel" 13 "NextButOneModel" "kept" "[I" ∈ uw := mem_uw 918 (by decide +kernel) rfl
set_option maxRecDepth 100000 in
theorem q919 : Cond.fieldLink "NextButOneModel" 262 "NextButOneModel" "isKept" "Z" ∈ uw := mem_uw 919 (by decide +kernel) rfl
set_option maxRecDepth 100000 in
theorem q920 : Cond.fieldLink "NextButOneModel" 16 "NextButOneModel" "findings" "[I" ∈ uw := mem_uw 920 (by decide +kernel) rfl
set_option maxRecDepth 100000 in
theorem q921 : Cond.fieldLink "NextButOneModel" 19 "NextButOneModel" "tape" "[I" ∈ uw := mem_uw 921 (by decide +kernel) rfl
set_option maxRecDepth 100000 in
theorem q922 : Cond.fieldLink "NextButOneModel" 204 "NextButOneModel" "taped" "I" ∈ uw := mem_uw 922 (by decide +kernel) rfl
set_option maxRecDepth 100000 in
theorem q923 : Cond.fieldLink "NextButOneModel" 22 "NextButOneModel" "bitsOf" "[I" ∈ uw := mem_uw 923 (by decide +kernel) rfl
set_option maxRecDepth 100000 in
theorem q924 : Cond.fieldLink "NextButOneModel" 25 "NextButOneModel" "sizes" "[I" ∈ uw := mem_uw 924 (by decide +kernel) rfl
set_option maxRecDepth 100000 in
theorem q925 : Cond.fieldLink "NextButOneModel" 28 "NextButOneModel" "numbers" "[J" ∈ uw := mem_uw 925 (by decide +kernel) rfl
set_option maxRecDepth 100000 in
theorem q926 : Cond.fieldLink "NextButOneModel" 32 "NextButOneModel" "wordOne" "I" ∈ uw := mem_uw 926 (by decide +kernel) rfl
set_option maxRecDepth 100000 in
theorem q927 : Cond.fieldLink "NextButOneModel" 36 "NextButOneModel" "wordOther" "I" ∈ uw := mem_uw 927 (by decide +kernel) rfl
set_option maxRecDepth 100000 in
theorem q928 : Cond.fieldLink "NextButOneModel" 39 "NextButOneModel" "inner" "[I" ∈ uw := mem_uw 928 (by decide +kernel) rfl
set_option maxRecDepth 100000 in
theorem q929 : Cond.fieldLink "NextButOneModel" 114 "NextButOneModel" "isFollowing" "Z" ∈ uw := mem_uw 929 (by decide +kernel) rfl
set_option maxRecDepth 100000 in
theorem q930 : Cond.fieldLink "NextButOneModel" 42 "NextButOneModel" "outer" "[I" ∈ uw := mem_uw 930 (by decide +kernel) rfl
set_option maxRecDepth 100000 in
theorem q931 : Cond.fieldLink "NextButOneModel" 45 "NextButOneModel" "was" "[I" ∈ uw := mem_uw 931 (by decide +kernel) rfl
set_option maxRecDepth 100000 in
theorem q932 : Cond.fieldLink "NextButOneModel" 48 "NextButOneModel" "who" "[I" ∈ uw := mem_uw 932 (by decide +kernel) rfl
set_option maxRecDepth 100000 in
theorem q933 : Cond.fieldLink "NextButOneModel" 188 "NextButOneModel" "soFirst" "I" ∈ uw := mem_uw 933 (by decide +kernel) rfl
set_option maxRecDepth 100000 in
theorem q934 : Cond.fieldLink "NextButOneModel" 191 "NextButOneModel" "soAgain" "I" ∈ uw := mem_uw 934 (by decide +kernel) rfl
set_option maxRecDepth 100000 in
theorem q935 : Cond.fieldLink "NextButOneModel" 51 "NextButOneModel" "step" "[I" ∈ uw := mem_uw 935 (by decide +kernel) rfl
set_option maxRecDepth 100000 in
theorem q936 : Cond.fieldLink "NextButOneModel" 207 "NextButOneModel" "stepMany" "I" ∈ uw := mem_uw 936 (by decide +kernel) rfl
set_option maxRecDepth 100000 in
theorem q937 : Cond.fieldLink "NextButOneModel" 54 "NextButOneModel" "waitSign" "[I" ∈ uw := mem_uw 937 (by decide +kernel) rfl
set_option maxRecDepth 100000 in
theorem q938 : Cond.fieldLink "NextButOneModel" 210 "NextButOneModel" "waitMany" "I" ∈ uw := mem_uw 938 (by decide +kernel) rfl
set_option maxRecDepth 100000 in
theorem q939 : Cond.fieldLink "NextButOneModel" 57 "NextButOneModel" "isCompared" "[Z" ∈ uw := mem_uw 939 (by decide +kernel) rfl
set_option maxRecDepth 100000 in
theorem q940 : Cond.fieldLink "NextButOneModel" 222 "NextButOneModel" "level" "I" ∈ uw := mem_uw 940 (by decide +kernel) rfl
set_option maxRecDepth 100000 in
theorem q941 : Cond.fieldLink "NextButOneModel" 216 "NextButOneModel" "opened" "I" ∈ uw := mem_uw 941 (by decide +kernel) rfl
set_option maxRecDepth 100000 in
theorem q942 : Cond.fieldLink "NextButOneModel" 61 "NextButOneModel" "stack" "[I" ∈ uw := mem_uw 942 (by decide +kernel) rfl
set_option maxRecDepth 100000 in
theorem q995 : Cond.superclass "NextButOneModel" "java/lang/Object" ∈ uw := mem_uw 995 (by decide +kernel) rfl
set_option maxRecDepth 100000 in
theorem q996 : Cond.arrayClass FieldType.boolean ∈ uw := mem_uw 996 (by decide +kernel) rfl
set_option maxRecDepth 100000 in
theorem q997 : Cond.methodLink "NextButOneLaw" 17 yX8_person ∈ uw := mem_uw 997 (by decide +kernel) rfl
set_option maxRecDepth 100000 in
theorem q998 : Cond.instanceMethod yX8_person ∈ uw := mem_uw 998 (by decide +kernel) rfl
set_option maxRecDepth 100000 in
theorem q999 : Cond.selects "NextButOneModel" yX8_person yX8_person ∈ uw := mem_uw 999 (by decide +kernel) rfl
set_option maxRecDepth 100000 in
theorem q1000 : Cond.code yX8_person cX8_person 7 (some .int) ∈ uw := mem_uw 1000 rfl rfl
set_option maxRecDepth 100000 in
theorem q1001 : Cond.constantLong "NextButOneModel" 69 6 ∈ uw := mem_uw 1001 (by decide +kernel) rfl
set_option maxRecDepth 100000 in
theorem q1002 : Cond.methodLink "NextButOneModel" 71 yX8_isIn ∈ uw := mem_uw 1002 (by decide +kernel) rfl
set_option maxRecDepth 100000 in
theorem q1003 : Cond.static yX8_isIn ∈ uw := mem_uw 1003 (by decide +kernel) rfl
set_option maxRecDepth 100000 in
theorem q1004 : Cond.code yX8_isIn cX8_isIn 6 (some .boolean) ∈ uw := mem_uw 1004 rfl rfl
set_option maxRecDepth 100000 in
theorem q1005 : Cond.constantLong "NextButOneModel" 75 20 ∈ uw := mem_uw 1005 (by decide +kernel) rfl
set_option maxRecDepth 100000 in
theorem q1006 : Cond.constantLong "NextButOneModel" 77 99 ∈ uw := mem_uw 1006 (by decide +kernel) rfl
set_option maxRecDepth 100000 in
theorem q1007 : Cond.constantLong "NextButOneModel" 79 3 ∈ uw := mem_uw 1007 (by decide +kernel) rfl
set_option maxRecDepth 100000 in
theorem q1008 : Cond.constant "NextButOneModel" 64 (-1000000001) ∈ uw := mem_uw 1008 (by decide +kernel) rfl
set_option maxRecDepth 100000 in
theorem q1009 : Cond.methodLink "NextButOneModel" 81 yX8_finds ∈ uw := mem_uw 1009 (by decide +kernel) rfl
set_option maxRecDepth 100000 in
theorem q1011 : Cond.instanceMethod yX8_finds ∈ uw := mem_uw 1011 (by decide +kernel) rfl
set_option maxRecDepth 100000 in
theorem q1012 : Cond.code yX8_finds cX8_finds 2 (some .int) ∈ uw := mem_uw 1012 rfl rfl
set_option maxRecDepth 100000 in
theorem q1013 : Cond.constant "NextButOneModel" 85 (-1000000002) ∈ uw := mem_uw 1013 (by decide +kernel) rfl
set_option maxRecDepth 100000 in
theorem q1014 : Cond.methodLink "NextButOneLaw" 22 yX8_of ∈ uw := mem_uw 1014 (by decide +kernel) rfl
set_option maxRecDepth 100000 in
theorem q1015 : Cond.instanceMethod yX8_of ∈ uw := mem_uw 1015 (by decide +kernel) rfl
set_option maxRecDepth 100000 in
theorem q1016 : Cond.selects "NextButOneModel" yX8_of yX8_of ∈ uw := mem_uw 1016 (by decide +kernel) rfl
set_option maxRecDepth 100000 in
theorem q1017 : Cond.code yX8_of cX8_of 3 (some .int) ∈ uw := mem_uw 1017 rfl rfl
set_option maxRecDepth 100000 in
theorem q1018 : Cond.methodLink "NextButOneModel" 121 yX8_isPerson ∈ uw := mem_uw 1018 (by decide +kernel) rfl
set_option maxRecDepth 100000 in
theorem q1020 : Cond.instanceMethod yX8_isPerson ∈ uw := mem_uw 1020 (by decide +kernel) rfl
set_option maxRecDepth 100000 in
theorem q1021 : Cond.code yX8_isPerson cX8_isPerson 2 (some .boolean) ∈ uw := mem_uw 1021 rfl rfl
set_option maxRecDepth 100000 in
theorem q1022 : Cond.constantLong "NextButOneModel" 124 7 ∈ uw := mem_uw 1022 (by decide +kernel) rfl
set_option maxRecDepth 100000 in
theorem q1023 : Cond.methodLink "NextButOneModel" 65 yX8_has0 ∈ uw := mem_uw 1023 (by decide +kernel) rfl
set_option maxRecDepth 100000 in
theorem q1025 : Cond.instanceMethod yX8_has0 ∈ uw := mem_uw 1025 (by decide +kernel) rfl
set_option maxRecDepth 100000 in
theorem q1026 : Cond.code yX8_has0 cX8_has0 3 (some .int) ∈ uw := mem_uw 1026 rfl rfl
set_option maxRecDepth 100000 in
theorem q1027 : Cond.methodLink "NextButOneModel" 90 yX8_placeOf ∈ uw := mem_uw 1027 (by decide +kernel) rfl
set_option maxRecDepth 100000 in
theorem q1029 : Cond.instanceMethod yX8_placeOf ∈ uw := mem_uw 1029 (by decide +kernel) rfl
set_option maxRecDepth 100000 in
theorem q1030 : Cond.code yX8_placeOf cX8_placeOf 3 (some .int) ∈ uw := mem_uw 1030 rfl rfl
set_option maxRecDepth 100000 in
theorem q1031 : Cond.methodLink "NextButOneModel" 126 yX8_would ∈ uw := mem_uw 1031 (by decide +kernel) rfl
set_option maxRecDepth 100000 in
theorem q1033 : Cond.instanceMethod yX8_would ∈ uw := mem_uw 1033 (by decide +kernel) rfl
set_option maxRecDepth 100000 in
theorem q1034 : Cond.code yX8_would cX8_would 6 (some .int) ∈ uw := mem_uw 1034 rfl rfl
set_option maxRecDepth 100000 in
theorem q1035 : Cond.methodLink "NextButOneModel" 93 yX8_mayName ∈ uw := mem_uw 1035 (by decide +kernel) rfl
set_option maxRecDepth 100000 in
theorem q1037 : Cond.instanceMethod yX8_mayName ∈ uw := mem_uw 1037 (by decide +kernel) rfl
set_option maxRecDepth 100000 in
theorem q1038 : Cond.code yX8_mayName cX8_mayName 3 (some .boolean) ∈ uw := mem_uw 1038 rfl rfl
set_option maxRecDepth 100000 in
theorem q1039 : Cond.methodLink "NextButOneModel" 86 yX8_isAlive ∈ uw := mem_uw 1039 (by decide +kernel) rfl
set_option maxRecDepth 100000 in
theorem q1041 : Cond.instanceMethod yX8_isAlive ∈ uw := mem_uw 1041 (by decide +kernel) rfl
set_option maxRecDepth 100000 in
theorem q1042 : Cond.code yX8_isAlive cX8_isAlive 2 (some .boolean) ∈ uw := mem_uw 1042 rfl rfl
set_option maxRecDepth 100000 in
theorem q1043 : Cond.methodLink "NextButOneModel" 101 yX8_firstNamed ∈ uw := mem_uw 1043 (by decide +kernel) rfl
set_option maxRecDepth 100000 in
theorem q1045 : Cond.instanceMethod yX8_firstNamed ∈ uw := mem_uw 1045 (by decide +kernel) rfl
set_option maxRecDepth 100000 in
theorem q1046 : Cond.code yX8_firstNamed cX8_firstNamed 2 (some .int) ∈ uw := mem_uw 1046 rfl rfl
set_option maxRecDepth 100000 in
theorem q1047 : Cond.methodLink "NextButOneModel" 118 yX8_bestBy ∈ uw := mem_uw 1047 (by decide +kernel) rfl
set_option maxRecDepth 100000 in
theorem q1049 : Cond.instanceMethod yX8_bestBy ∈ uw := mem_uw 1049 (by decide +kernel) rfl
set_option maxRecDepth 100000 in
theorem q1050 : Cond.code yX8_bestBy cX8_bestBy 8 (some .int) ∈ uw := mem_uw 1050 rfl rfl
set_option maxRecDepth 100000 in
theorem q1051 : Cond.methodLink "NextButOneModel" 97 yX8_valueBy ∈ uw := mem_uw 1051 (by decide +kernel) rfl
set_option maxRecDepth 100000 in
theorem q1053 : Cond.instanceMethod yX8_valueBy ∈ uw := mem_uw 1053 (by decide +kernel) rfl
set_option maxRecDepth 100000 in
theorem q1054 : Cond.code yX8_valueBy cX8_valueBy 4 (some .int) ∈ uw := mem_uw 1054 rfl rfl
set_option maxRecDepth 100000 in
theorem q1055 : Cond.methodLink "NextButOneModel" 105 yX8_likesOf ∈ uw := mem_uw 1055 (by decide +kernel) rfl
set_option maxRecDepth 100000 in
theorem q1057 : Cond.instanceMethod yX8_likesOf ∈ uw := mem_uw 1057 (by decide +kernel) rfl
set_option maxRecDepth 100000 in
theorem q1058 : Cond.code yX8_likesOf cX8_likesOf 3 (some .int) ∈ uw := mem_uw 1058 rfl rfl
set_option maxRecDepth 100000 in
theorem q1059 : Cond.methodLink "NextButOneModel" 108 yX8_givenBy ∈ uw := mem_uw 1059 (by decide +kernel) rfl
set_option maxRecDepth 100000 in
theorem q1061 : Cond.instanceMethod yX8_givenBy ∈ uw := mem_uw 1061 (by decide +kernel) rfl
set_option maxRecDepth 100000 in
theorem q1062 : Cond.code yX8_givenBy cX8_givenBy 6 (some .int) ∈ uw := mem_uw 1062 rfl rfl
set_option maxRecDepth 100000 in
theorem q1063 : Cond.methodLink "NextButOneModel" 247 yX8_worked ∈ uw := mem_uw 1063 (by decide +kernel) rfl
set_option maxRecDepth 100000 in
theorem q1064 : Cond.static yX8_worked ∈ uw := mem_uw 1064 (by decide +kernel) rfl
set_option maxRecDepth 100000 in
theorem q1065 : Cond.code yX8_worked cX8_worked 3 (some .int) ∈ uw := mem_uw 1065 rfl rfl
set_option maxRecDepth 100000 in
theorem q1066 : Cond.methodLink "NextButOneModel" 250 yX8_named ∈ uw := mem_uw 1066 (by decide +kernel) rfl
set_option maxRecDepth 100000 in
theorem q1068 : Cond.instanceMethod yX8_named ∈ uw := mem_uw 1068 (by decide +kernel) rfl
set_option maxRecDepth 100000 in
theorem q1069 : Cond.code yX8_named cX8_named 5 (some .int) ∈ uw := mem_uw 1069 rfl rfl
set_option maxRecDepth 100000 in
theorem q1070 : Cond.methodLink "NextButOneModel" 160 yX8_worthOf ∈ uw := mem_uw 1070 (by decide +kernel) rfl
set_option maxRecDepth 100000 in
theorem q1072 : Cond.instanceMethod yX8_worthOf ∈ uw := mem_uw 1072 (by decide +kernel) rfl
set_option maxRecDepth 100000 in
theorem q1073 : Cond.code yX8_worthOf cX8_worthOf 3 (some .int) ∈ uw := mem_uw 1073 rfl rfl
set_option maxRecDepth 100000 in
theorem q1074 : Cond.methodLink "NextButOneModel" 111 yX8_followsBy ∈ uw := mem_uw 1074 (by decide +kernel) rfl
set_option maxRecDepth 100000 in
theorem q1076 : Cond.instanceMethod yX8_followsBy ∈ uw := mem_uw 1076 (by decide +kernel) rfl
set_option maxRecDepth 100000 in
theorem q1077 : Cond.code yX8_followsBy cX8_followsBy 6 (some .int) ∈ uw := mem_uw 1077 rfl rfl
set_option maxRecDepth 100000 in
theorem q1078 : Cond.methodLink "NextButOneModel" 157 yX8_comes ∈ uw := mem_uw 1078 (by decide +kernel) rfl
set_option maxRecDepth 100000 in
theorem q1080 : Cond.instanceMethod yX8_comes ∈ uw := mem_uw 1080 (by decide +kernel) rfl
set_option maxRecDepth 100000 in
theorem q1081 : Cond.code yX8_comes cX8_comes 4 (some .int) ∈ uw := mem_uw 1081 rfl rfl
set_option maxRecDepth 100000 in
theorem q1082 : Cond.methodLink "NextButOneLaw" 26 yX8_set ∈ uw := mem_uw 1082 (by decide +kernel) rfl
set_option maxRecDepth 100000 in
theorem q1083 : Cond.instanceMethod yX8_set ∈ uw := mem_uw 1083 (by decide +kernel) rfl
set_option maxRecDepth 100000 in
theorem q1084 : Cond.selects "NextButOneModel" yX8_set yX8_set ∈ uw := mem_uw 1084 (by decide +kernel) rfl
set_option maxRecDepth 100000 in
theorem q1085 : Cond.code yX8_set cX8_set 4 (some .int) ∈ uw := mem_uw 1085 rfl rfl
set_option maxRecDepth 100000 in
theorem q1086 : Cond.methodLink "NextButOneModel" 131 yX8_isFit ∈ uw := mem_uw 1086 (by decide +kernel) rfl
set_option maxRecDepth 100000 in
theorem q1087 : Cond.static yX8_isFit ∈ uw := mem_uw 1087 (by decide +kernel) rfl
set_option maxRecDepth 100000 in
theorem q1088 : Cond.code yX8_isFit cX8_isFit 2 (some .boolean) ∈ uw := mem_uw 1088 rfl rfl
set_option maxRecDepth 100000 in
theorem q1089 : Cond.constantLong "NextButOneModel" 129 1023 ∈ uw := mem_uw 1089 (by decide +kernel) rfl
set_option maxRecDepth 100000 in
theorem q1090 : Cond.methodLink "NextButOneModel" 134 yX8_becomes ∈ uw := mem_uw 1090 (by decide +kernel) rfl
set_option maxRecDepth 100000 in
theorem q1092 : Cond.instanceMethod yX8_becomes ∈ uw := mem_uw 1092 (by decide +kernel) rfl
set_option maxRecDepth 100000 in
theorem q1093 : Cond.code yX8_becomes cX8_becomes 4 (some .int) ∈ uw := mem_uw 1093 rfl rfl
set_option maxRecDepth 100000 in
theorem q1094 : Cond.methodLink "NextButOneLaw" 30 yX8_as ∈ uw := mem_uw 1094 (by decide +kernel) rfl
set_option maxRecDepth 100000 in
theorem q1095 : Cond.instanceMethod yX8_as ∈ uw := mem_uw 1095 (by decide +kernel) rfl
set_option maxRecDepth 100000 in
theorem q1096 : Cond.selects "NextButOneModel" yX8_as yX8_as ∈ uw := mem_uw 1096 (by decide +kernel) rfl
set_option maxRecDepth 100000 in
theorem q1097 : Cond.code yX8_as cX8_as 4 (some .int) ∈ uw := mem_uw 1097 rfl rfl
set_option maxRecDepth 100000 in
theorem q1098 : Cond.constant "NextButOneModel" 137 (-1000000003) ∈ uw := mem_uw 1098 (by decide +kernel) rfl
set_option maxRecDepth 100000 in
theorem q1099 : Cond.methodLink "NextButOneLaw" 34 yX8_likes ∈ uw := mem_uw 1099 (by decide +kernel) rfl
set_option maxRecDepth 100000 in
theorem q1100 : Cond.instanceMethod yX8_likes ∈ uw := mem_uw 1100 (by decide +kernel) rfl
set_option maxRecDepth 100000 in
theorem q1101 : Cond.selects "NextButOneModel" yX8_likes yX8_likes ∈ uw := mem_uw 1101 (by decide +kernel) rfl
set_option maxRecDepth 100000 in
theorem q1102 : Cond.code yX8_likes cX8_likes 4 (some .int) ∈ uw := mem_uw 1102 rfl rfl
set_option maxRecDepth 100000 in
theorem q1103 : Cond.constantLong "NextButOneModel" 138 (-9) ∈ uw := mem_uw 1103 (by decide +kernel) rfl
set_option maxRecDepth 100000 in
theorem q1104 : Cond.constantLong "NextButOneModel" 140 9 ∈ uw := mem_uw 1104 (by decide +kernel) rfl
set_option maxRecDepth 100000 in
theorem q1105 : Cond.methodLink "NextButOneLaw" 38 yX8_worth ∈ uw := mem_uw 1105 (by decide +kernel) rfl
set_option maxRecDepth 100000 in
theorem q1106 : Cond.instanceMethod yX8_worth ∈ uw := mem_uw 1106 (by decide +kernel) rfl
set_option maxRecDepth 100000 in
theorem q1107 : Cond.selects "NextButOneModel" yX8_worth yX8_worth ∈ uw := mem_uw 1107 (by decide +kernel) rfl
set_option maxRecDepth 100000 in
theorem q1108 : Cond.code yX8_worth cX8_worth 4 (some .int) ∈ uw := mem_uw 1108 rfl rfl
set_option maxRecDepth 100000 in
theorem q1109 : Cond.constantLong "NextButOneModel" 142 (-99) ∈ uw := mem_uw 1109 (by decide +kernel) rfl
set_option maxRecDepth 100000 in
theorem q1110 : Cond.methodLink "NextButOneLaw" 42 yX8_rule ∈ uw := mem_uw 1110 (by decide +kernel) rfl
set_option maxRecDepth 100000 in
theorem q1111 : Cond.instanceMethod yX8_rule ∈ uw := mem_uw 1111 (by decide +kernel) rfl
set_option maxRecDepth 100000 in
theorem q1112 : Cond.selects "NextButOneModel" yX8_rule yX8_rule ∈ uw := mem_uw 1112 (by decide +kernel) rfl
set_option maxRecDepth 100000 in
theorem q1113 : Cond.code yX8_rule cX8_rule 4 (some .int) ∈ uw := mem_uw 1113 rfl rfl
set_option maxRecDepth 100000 in
theorem q1114 : Cond.methodLink "NextButOneModel" 150 yX8_isRule ∈ uw := mem_uw 1114 (by decide +kernel) rfl
set_option maxRecDepth 100000 in
theorem q1115 : Cond.static yX8_isRule ∈ uw := mem_uw 1115 (by decide +kernel) rfl
set_option maxRecDepth 100000 in
theorem q1116 : Cond.code yX8_isRule cX8_isRule 2 (some .boolean) ∈ uw := mem_uw 1116 rfl rfl
set_option maxRecDepth 100000 in
theorem q1117 : Cond.constantLong "NextButOneModel" 144 4 ∈ uw := mem_uw 1117 (by decide +kernel) rfl
set_option maxRecDepth 100000 in
theorem q1118 : Cond.constantLong "NextButOneModel" 146 40 ∈ uw := mem_uw 1118 (by decide +kernel) rfl
set_option maxRecDepth 100000 in
theorem q1119 : Cond.constantLong "NextButOneModel" 148 2 ∈ uw := mem_uw 1119 (by decide +kernel) rfl
set_option maxRecDepth 100000 in
theorem q1120 : Cond.methodLink "NextButOneModel" 153 yX8_cutsLine ∈ uw := mem_uw 1120 (by decide +kernel) rfl
set_option maxRecDepth 100000 in
theorem q1122 : Cond.instanceMethod yX8_cutsLine ∈ uw := mem_uw 1122 (by decide +kernel) rfl
set_option maxRecDepth 100000 in
theorem q1123 : Cond.code yX8_cutsLine cX8_cutsLine 2 none ∈ uw := mem_uw 1123 rfl rfl
set_option maxRecDepth 100000 in
theorem q1124 : Cond.methodLink "NextButOneLaw" 47 yX8_sit ∈ uw := mem_uw 1124 (by decide +kernel) rfl
set_option maxRecDepth 100000 in
theorem q1125 : Cond.instanceMethod yX8_sit ∈ uw := mem_uw 1125 (by decide +kernel) rfl
set_option maxRecDepth 100000 in
theorem q1126 : Cond.selects "NextButOneModel" yX8_sit yX8_sit ∈ uw := mem_uw 1126 (by decide +kernel) rfl
set_option maxRecDepth 100000 in
theorem q1127 : Cond.code yX8_sit cX8_sit 2 (some .int) ∈ uw := mem_uw 1127 rfl rfl
set_option maxRecDepth 100000 in
theorem q1128 : Cond.constant "NextButOneModel" 156 (-1000000005) ∈ uw := mem_uw 1128 (by decide +kernel) rfl
set_option maxRecDepth 100000 in
theorem q1129 : Cond.methodLink "NextButOneLaw" 51 yX8_line ∈ uw := mem_uw 1129 (by decide +kernel) rfl
set_option maxRecDepth 100000 in
theorem q1130 : Cond.instanceMethod yX8_line ∈ uw := mem_uw 1130 (by decide +kernel) rfl
set_option maxRecDepth 100000 in
theorem q1131 : Cond.selects "NextButOneModel" yX8_line yX8_line ∈ uw := mem_uw 1131 (by decide +kernel) rfl
set_option maxRecDepth 100000 in
theorem q1132 : Cond.code yX8_line cX8_line 3 (some .int) ∈ uw := mem_uw 1132 rfl rfl
set_option maxRecDepth 100000 in
theorem q1133 : Cond.methodLink "NextButOneLaw" 55 yX8_may ∈ uw := mem_uw 1133 (by decide +kernel) rfl
set_option maxRecDepth 100000 in
theorem q1134 : Cond.instanceMethod yX8_may ∈ uw := mem_uw 1134 (by decide +kernel) rfl
set_option maxRecDepth 100000 in
theorem q1135 : Cond.selects "NextButOneModel" yX8_may yX8_may ∈ uw := mem_uw 1135 (by decide +kernel) rfl
set_option maxRecDepth 100000 in
theorem q1136 : Cond.code yX8_may cX8_may 4 (some .int) ∈ uw := mem_uw 1136 rfl rfl
set_option maxRecDepth 100000 in
theorem q1137 : Cond.methodLink "NextButOneLaw" 64 yX8_come ∈ uw := mem_uw 1137 (by decide +kernel) rfl
set_option maxRecDepth 100000 in
theorem q1138 : Cond.instanceMethod yX8_come ∈ uw := mem_uw 1138 (by decide +kernel) rfl
set_option maxRecDepth 100000 in
theorem q1139 : Cond.selects "NextButOneModel" yX8_come yX8_come ∈ uw := mem_uw 1139 (by decide +kernel) rfl
set_option maxRecDepth 100000 in
theorem q1140 : Cond.code yX8_come cX8_come 1 (some .int) ∈ uw := mem_uw 1140 rfl rfl
set_option maxRecDepth 100000 in
theorem q1141 : Cond.methodLink "NextButOneLaw" 59 yX8_follows ∈ uw := mem_uw 1141 (by decide +kernel) rfl
set_option maxRecDepth 100000 in
theorem q1142 : Cond.instanceMethod yX8_follows ∈ uw := mem_uw 1142 (by decide +kernel) rfl
set_option maxRecDepth 100000 in
theorem q1143 : Cond.selects "NextButOneModel" yX8_follows yX8_follows ∈ uw := mem_uw 1143 (by decide +kernel) rfl
set_option maxRecDepth 100000 in
theorem q1144 : Cond.code yX8_follows cX8_follows 3 (some .int) ∈ uw := mem_uw 1144 rfl rfl
set_option maxRecDepth 100000 in
theorem q1145 : Cond.methodLink "NextButOneLaw" 68 yX8_years ∈ uw := mem_uw 1145 (by decide +kernel) rfl
set_option maxRecDepth 100000 in
theorem q1146 : Cond.instanceMethod yX8_years ∈ uw := mem_uw 1146 (by decide +kernel) rfl
set_option maxRecDepth 100000 in
theorem q1147 : Cond.selects "NextButOneModel" yX8_years yX8_years ∈ uw := mem_uw 1147 (by decide +kernel) rfl
set_option maxRecDepth 100000 in
theorem q1148 : Cond.code yX8_years cX8_years 4 (some .int) ∈ uw := mem_uw 1148 rfl rfl
set_option maxRecDepth 100000 in
theorem q1149 : Cond.constantLong "NextButOneModel" 168 50 ∈ uw := mem_uw 1149 (by decide +kernel) rfl
set_option maxRecDepth 100000 in
theorem q1150 : Cond.methodLink "NextButOneModel" 170 yX8_year ∈ uw := mem_uw 1150 (by decide +kernel) rfl
set_option maxRecDepth 100000 in
theorem q1152 : Cond.instanceMethod yX8_year ∈ uw := mem_uw 1152 (by decide +kernel) rfl
set_option maxRecDepth 100000 in
theorem q1153 : Cond.code yX8_year cX8_year 3 (some .boolean) ∈ uw := mem_uw 1153 rfl rfl
set_option maxRecDepth 100000 in
theorem q1154 : Cond.constant "NextButOneModel" 163 1103515245 ∈ uw := mem_uw 1154 (by decide +kernel) rfl
set_option maxRecDepth 100000 in
theorem q1155 : Cond.methodLink "NextButOneModel" 164 yX8_dies ∈ uw := mem_uw 1155 (by decide +kernel) rfl
set_option maxRecDepth 100000 in
theorem q1157 : Cond.instanceMethod yX8_dies ∈ uw := mem_uw 1157 (by decide +kernel) rfl
set_option maxRecDepth 100000 in
theorem q1158 : Cond.code yX8_dies cX8_dies 3 none ∈ uw := mem_uw 1158 rfl rfl
set_option maxRecDepth 100000 in
theorem q1159 : Cond.methodLink "NextButOneLaw" 72 yX8_seed ∈ uw := mem_uw 1159 (by decide +kernel) rfl
set_option maxRecDepth 100000 in
theorem q1160 : Cond.instanceMethod yX8_seed ∈ uw := mem_uw 1160 (by decide +kernel) rfl
set_option maxRecDepth 100000 in
theorem q1161 : Cond.selects "NextButOneModel" yX8_seed yX8_seed ∈ uw := mem_uw 1161 (by decide +kernel) rfl
set_option maxRecDepth 100000 in
theorem q1162 : Cond.code yX8_seed cX8_seed 2 (some .int) ∈ uw := mem_uw 1162 rfl rfl
set_option maxRecDepth 100000 in
theorem q1163 : Cond.methodLink "NextButOneLaw" 76 yX8_now ∈ uw := mem_uw 1163 (by decide +kernel) rfl
set_option maxRecDepth 100000 in
theorem q1164 : Cond.instanceMethod yX8_now ∈ uw := mem_uw 1164 (by decide +kernel) rfl
set_option maxRecDepth 100000 in
theorem q1165 : Cond.selects "NextButOneModel" yX8_now yX8_now ∈ uw := mem_uw 1165 (by decide +kernel) rfl
set_option maxRecDepth 100000 in
theorem q1166 : Cond.code yX8_now cX8_now 2 (some .int) ∈ uw := mem_uw 1166 rfl rfl
set_option maxRecDepth 100000 in
theorem q1167 : Cond.methodLink "NextButOneLaw" 80 yX8_ahead ∈ uw := mem_uw 1167 (by decide +kernel) rfl
set_option maxRecDepth 100000 in
theorem q1168 : Cond.instanceMethod yX8_ahead ∈ uw := mem_uw 1168 (by decide +kernel) rfl
set_option maxRecDepth 100000 in
theorem q1169 : Cond.selects "NextButOneModel" yX8_ahead yX8_ahead ∈ uw := mem_uw 1169 (by decide +kernel) rfl
set_option maxRecDepth 100000 in
theorem q1170 : Cond.code yX8_ahead cX8_ahead 4 (some .int) ∈ uw := mem_uw 1170 rfl rfl
set_option maxRecDepth 100000 in
theorem q1171 : Cond.methodLink "NextButOneModel" 176 yX8_isChairs ∈ uw := mem_uw 1171 (by decide +kernel) rfl
set_option maxRecDepth 100000 in
theorem q1172 : Cond.static yX8_isChairs ∈ uw := mem_uw 1172 (by decide +kernel) rfl
set_option maxRecDepth 100000 in
theorem q1173 : Cond.code yX8_isChairs cX8_isChairs 1 (some .boolean) ∈ uw := mem_uw 1173 rfl rfl
set_option maxRecDepth 100000 in
theorem q1174 : Cond.constantLong "NextButOneModel" 174 200 ∈ uw := mem_uw 1174 (by decide +kernel) rfl
set_option maxRecDepth 100000 in
theorem q1175 : Cond.methodLink "NextButOneModel" 179 yX8_laysBy ∈ uw := mem_uw 1175 (by decide +kernel) rfl
set_option maxRecDepth 100000 in
theorem q1177 : Cond.instanceMethod yX8_laysBy ∈ uw := mem_uw 1177 (by decide +kernel) rfl
set_option maxRecDepth 100000 in
theorem q1178 : Cond.code yX8_laysBy cX8_laysBy 2 none ∈ uw := mem_uw 1178 rfl rfl
set_option maxRecDepth 100000 in
theorem q1179 : Cond.methodLink "NextButOneModel" 182 yX8_laysBack ∈ uw := mem_uw 1179 (by decide +kernel) rfl
set_option maxRecDepth 100000 in
theorem q1181 : Cond.instanceMethod yX8_laysBack ∈ uw := mem_uw 1181 (by decide +kernel) rfl
set_option maxRecDepth 100000 in
theorem q1182 : Cond.code yX8_laysBack cX8_laysBack 2 none ∈ uw := mem_uw 1182 rfl rfl
set_option maxRecDepth 100000 in
theorem q1183 : Cond.methodLink "NextButOneLaw" 84 yX8_ever ∈ uw := mem_uw 1183 (by decide +kernel) rfl
set_option maxRecDepth 100000 in
theorem q1184 : Cond.instanceMethod yX8_ever ∈ uw := mem_uw 1184 (by decide +kernel) rfl
set_option maxRecDepth 100000 in
theorem q1185 : Cond.selects "NextButOneModel" yX8_ever yX8_ever ∈ uw := mem_uw 1185 (by decide +kernel) rfl
set_option maxRecDepth 100000 in
theorem q1186 : Cond.code yX8_ever cX8_ever 3 (some .int) ∈ uw := mem_uw 1186 rfl rfl
set_option maxRecDepth 100000 in
theorem q1187 : Cond.methodLink "NextButOneModel" 194 yX8_findEver ∈ uw := mem_uw 1187 (by decide +kernel) rfl
set_option maxRecDepth 100000 in
theorem q1189 : Cond.instanceMethod yX8_findEver ∈ uw := mem_uw 1189 (by decide +kernel) rfl
set_option maxRecDepth 100000 in
theorem q1190 : Cond.code yX8_findEver cX8_findEver 3 (some .boolean) ∈ uw := mem_uw 1190 rfl rfl
set_option maxRecDepth 100000 in
theorem q1191 : Cond.methodLink "NextButOneModel" 185 yX8_asOne ∈ uw := mem_uw 1191 (by decide +kernel) rfl
set_option maxRecDepth 100000 in
theorem q1193 : Cond.instanceMethod yX8_asOne ∈ uw := mem_uw 1193 (by decide +kernel) rfl
set_option maxRecDepth 100000 in
theorem q1194 : Cond.code yX8_asOne cX8_asOne 3 (some .int) ∈ uw := mem_uw 1194 rfl rfl
set_option maxRecDepth 100000 in
theorem q1195 : Cond.constant "NextButOneModel" 197 (-1000000004) ∈ uw := mem_uw 1195 (by decide +kernel) rfl
set_option maxRecDepth 100000 in
theorem q1196 : Cond.methodLink "NextButOneLaw" 88 yX8_turns ∈ uw := mem_uw 1196 (by decide +kernel) rfl
set_option maxRecDepth 100000 in
theorem q1197 : Cond.instanceMethod yX8_turns ∈ uw := mem_uw 1197 (by decide +kernel) rfl
set_option maxRecDepth 100000 in
theorem q1198 : Cond.selects "NextButOneModel" yX8_turns yX8_turns ∈ uw := mem_uw 1198 (by decide +kernel) rfl
set_option maxRecDepth 100000 in
theorem q1199 : Cond.code yX8_turns cX8_turns 2 (some .int) ∈ uw := mem_uw 1199 rfl rfl
set_option maxRecDepth 100000 in
theorem q1200 : Cond.methodLink "NextButOneLaw" 92 yX8_share ∈ uw := mem_uw 1200 (by decide +kernel) rfl
set_option maxRecDepth 100000 in
theorem q1201 : Cond.instanceMethod yX8_share ∈ uw := mem_uw 1201 (by decide +kernel) rfl
set_option maxRecDepth 100000 in
theorem q1202 : Cond.selects "NextButOneModel" yX8_share yX8_share ∈ uw := mem_uw 1202 (by decide +kernel) rfl
set_option maxRecDepth 100000 in
theorem q1203 : Cond.code yX8_share cX8_share 6 (some .int) ∈ uw := mem_uw 1203 rfl rfl
set_option maxRecDepth 100000 in
theorem q1204 : Cond.methodLink "NextButOneLaw" 96 yX8_has ∈ uw := mem_uw 1204 (by decide +kernel) rfl
set_option maxRecDepth 100000 in
theorem q1205 : Cond.instanceMethod yX8_has ∈ uw := mem_uw 1205 (by decide +kernel) rfl
set_option maxRecDepth 100000 in
theorem q1206 : Cond.selects "NextButOneModel" yX8_has yX8_has ∈ uw := mem_uw 1206 (by decide +kernel) rfl
set_option maxRecDepth 100000 in
theorem q1207 : Cond.code yX8_has cX8_has 4 (some .int) ∈ uw := mem_uw 1207 rfl rfl
set_option maxRecDepth 100000 in
theorem q1208 : Cond.methodLink "NextButOneModel" 198 yX8_hasIn ∈ uw := mem_uw 1208 (by decide +kernel) rfl
set_option maxRecDepth 100000 in
theorem q1210 : Cond.instanceMethod yX8_hasIn ∈ uw := mem_uw 1210 (by decide +kernel) rfl
set_option maxRecDepth 100000 in
theorem q1211 : Cond.code yX8_hasIn cX8_hasIn 6 (some .int) ∈ uw := mem_uw 1211 rfl rfl
set_option maxRecDepth 100000 in
theorem q1212 : Cond.methodLink "NextButOneLaw" 100 yX8_but ∈ uw := mem_uw 1212 (by decide +kernel) rfl
set_option maxRecDepth 100000 in
theorem q1213 : Cond.instanceMethod yX8_but ∈ uw := mem_uw 1213 (by decide +kernel) rfl
set_option maxRecDepth 100000 in
theorem q1214 : Cond.selects "NextButOneModel" yX8_but yX8_but ∈ uw := mem_uw 1214 (by decide +kernel) rfl
set_option maxRecDepth 100000 in
theorem q1215 : Cond.code yX8_but cX8_but 5 (some .int) ∈ uw := mem_uw 1215 rfl rfl
set_option maxRecDepth 100000 in
theorem q1216 : Cond.methodLink "NextButOneLaw" 104 yX8_vote ∈ uw := mem_uw 1216 (by decide +kernel) rfl
set_option maxRecDepth 100000 in
theorem q1217 : Cond.instanceMethod yX8_vote ∈ uw := mem_uw 1217 (by decide +kernel) rfl
set_option maxRecDepth 100000 in
theorem q1218 : Cond.selects "NextButOneModel" yX8_vote yX8_vote ∈ uw := mem_uw 1218 (by decide +kernel) rfl
set_option maxRecDepth 100000 in
theorem q1219 : Cond.code yX8_vote cX8_vote 6 (some .int) ∈ uw := mem_uw 1219 rfl rfl
set_option maxRecDepth 100000 in
theorem q1220 : Cond.methodLink "NextButOneLaw" 108 yX8_kept ∈ uw := mem_uw 1220 (by decide +kernel) rfl
set_option maxRecDepth 100000 in
theorem q1221 : Cond.instanceMethod yX8_kept ∈ uw := mem_uw 1221 (by decide +kernel) rfl
set_option maxRecDepth 100000 in
theorem q1222 : Cond.selects "NextButOneModel" yX8_kept yX8_kept ∈ uw := mem_uw 1222 (by decide +kernel) rfl
set_option maxRecDepth 100000 in
theorem q1223 : Cond.code yX8_kept cX8_kept 4 (some .int) ∈ uw := mem_uw 1223 rfl rfl
set_option maxRecDepth 100000 in
theorem q1224 : Cond.methodLink "NextButOneModel" 201 yX8_keptBy ∈ uw := mem_uw 1224 (by decide +kernel) rfl
set_option maxRecDepth 100000 in
theorem q1226 : Cond.instanceMethod yX8_keptBy ∈ uw := mem_uw 1226 (by decide +kernel) rfl
set_option maxRecDepth 100000 in
theorem q1227 : Cond.code yX8_keptBy cX8_keptBy 6 (some .int) ∈ uw := mem_uw 1227 rfl rfl
set_option maxRecDepth 100000 in
theorem q1228 : Cond.methodLink "NextButOneLaw" 112 yX8_pact ∈ uw := mem_uw 1228 (by decide +kernel) rfl
set_option maxRecDepth 100000 in
theorem q1229 : Cond.instanceMethod yX8_pact ∈ uw := mem_uw 1229 (by decide +kernel) rfl
set_option maxRecDepth 100000 in
theorem q1230 : Cond.selects "NextButOneModel" yX8_pact yX8_pact ∈ uw := mem_uw 1230 (by decide +kernel) rfl
set_option maxRecDepth 100000 in
theorem q1231 : Cond.code yX8_pact cX8_pact 7 (some .int) ∈ uw := mem_uw 1231 rfl rfl
set_option maxRecDepth 100000 in
theorem q1232 : Cond.methodLink "NextButOneLaw" 116 yX8_odds ∈ uw := mem_uw 1232 (by decide +kernel) rfl
set_option maxRecDepth 100000 in
theorem q1233 : Cond.instanceMethod yX8_odds ∈ uw := mem_uw 1233 (by decide +kernel) rfl
set_option maxRecDepth 100000 in
theorem q1234 : Cond.selects "NextButOneModel" yX8_odds yX8_odds ∈ uw := mem_uw 1234 (by decide +kernel) rfl
set_option maxRecDepth 100000 in
theorem q1235 : Cond.code yX8_odds cX8_odds 8 (some .int) ∈ uw := mem_uw 1235 rfl rfl
set_option maxRecDepth 100000 in
theorem q1236 : Cond.methodLink "NextButOneLaw" 120 yX8_feed ∈ uw := mem_uw 1236 (by decide +kernel) rfl
set_option maxRecDepth 100000 in
theorem q1237 : Cond.instanceMethod yX8_feed ∈ uw := mem_uw 1237 (by decide +kernel) rfl
set_option maxRecDepth 100000 in
theorem q1238 : Cond.selects "NextButOneModel" yX8_feed yX8_feed ∈ uw := mem_uw 1238 (by decide +kernel) rfl
set_option maxRecDepth 100000 in
theorem q1239 : Cond.code yX8_feed cX8_feed 4 (some .int) ∈ uw := mem_uw 1239 rfl rfl
set_option maxRecDepth 100000 in
theorem q1240 : Cond.methodLink "NextButOneLaw" 124 yX8_wipe ∈ uw := mem_uw 1240 (by decide +kernel) rfl
set_option maxRecDepth 100000 in
theorem q1241 : Cond.instanceMethod yX8_wipe ∈ uw := mem_uw 1241 (by decide +kernel) rfl
set_option maxRecDepth 100000 in
theorem q1242 : Cond.selects "NextButOneModel" yX8_wipe yX8_wipe ∈ uw := mem_uw 1242 (by decide +kernel) rfl
set_option maxRecDepth 100000 in
theorem q1243 : Cond.code yX8_wipe cX8_wipe 2 (some .int) ∈ uw := mem_uw 1243 rfl rfl
set_option maxRecDepth 100000 in
theorem q1244 : Cond.methodLink "NextButOneLaw" 128 yX8_text ∈ uw := mem_uw 1244 (by decide +kernel) rfl
set_option maxRecDepth 100000 in
theorem q1245 : Cond.instanceMethod yX8_text ∈ uw := mem_uw 1245 (by decide +kernel) rfl
set_option maxRecDepth 100000 in
theorem q1246 : Cond.selects "NextButOneModel" yX8_text yX8_text ∈ uw := mem_uw 1246 (by decide +kernel) rfl
set_option maxRecDepth 100000 in
theorem q1247 : Cond.code yX8_text cX8_text 7 (some .int) ∈ uw := mem_uw 1247 rfl rfl
set_option maxRecDepth 100000 in
theorem q1248 : Cond.methodLink "NextButOneModel" 234 yX8_isSignRead ∈ uw := mem_uw 1248 (by decide +kernel) rfl
set_option maxRecDepth 100000 in
theorem q1250 : Cond.instanceMethod yX8_isSignRead ∈ uw := mem_uw 1250 (by decide +kernel) rfl
set_option maxRecDepth 100000 in
theorem q1251 : Cond.code yX8_isSignRead cX8_isSignRead 3 (some .boolean) ∈ uw := mem_uw 1251 rfl rfl
set_option maxRecDepth 100000 in
theorem q1252 : Cond.methodLink "NextButOneModel" 219 yX8_binds ∈ uw := mem_uw 1252 (by decide +kernel) rfl
set_option maxRecDepth 100000 in
theorem q1253 : Cond.static yX8_binds ∈ uw := mem_uw 1253 (by decide +kernel) rfl
set_option maxRecDepth 100000 in
theorem q1254 : Cond.code yX8_binds cX8_binds 1 (some .int) ∈ uw := mem_uw 1254 rfl rfl
set_option maxRecDepth 100000 in
theorem q1255 : Cond.methodLink "NextButOneModel" 225 yX8_doneBy ∈ uw := mem_uw 1255 (by decide +kernel) rfl
set_option maxRecDepth 100000 in
theorem q1257 : Cond.instanceMethod yX8_doneBy ∈ uw := mem_uw 1257 (by decide +kernel) rfl
set_option maxRecDepth 100000 in
theorem q1258 : Cond.code yX8_doneBy cX8_doneBy 2 none ∈ uw := mem_uw 1258 rfl rfl
set_option maxRecDepth 100000 in
theorem q1259 : Cond.methodLink "NextButOneModel" 213 yX8_puts ∈ uw := mem_uw 1259 (by decide +kernel) rfl
set_option maxRecDepth 100000 in
theorem q1261 : Cond.instanceMethod yX8_puts ∈ uw := mem_uw 1261 (by decide +kernel) rfl
set_option maxRecDepth 100000 in
theorem q1262 : Cond.code yX8_puts cX8_puts 2 none ∈ uw := mem_uw 1262 rfl rfl
set_option maxRecDepth 100000 in
theorem q1263 : Cond.methodLink "NextButOneModel" 228 yX8_doneAhead ∈ uw := mem_uw 1263 (by decide +kernel) rfl
set_option maxRecDepth 100000 in
theorem q1265 : Cond.instanceMethod yX8_doneAhead ∈ uw := mem_uw 1265 (by decide +kernel) rfl
set_option maxRecDepth 100000 in
theorem q1266 : Cond.code yX8_doneAhead cX8_doneAhead 1 none ∈ uw := mem_uw 1266 rfl rfl
set_option maxRecDepth 100000 in
theorem q1267 : Cond.methodLink "NextButOneModel" 231 yX8_waits ∈ uw := mem_uw 1267 (by decide +kernel) rfl
set_option maxRecDepth 100000 in
theorem q1269 : Cond.instanceMethod yX8_waits ∈ uw := mem_uw 1269 (by decide +kernel) rfl
set_option maxRecDepth 100000 in
theorem q1270 : Cond.code yX8_waits cX8_waits 2 none ∈ uw := mem_uw 1270 rfl rfl
set_option maxRecDepth 100000 in
theorem q1271 : Cond.constantLong "NextButOneModel" 237 48 ∈ uw := mem_uw 1271 (by decide +kernel) rfl
set_option maxRecDepth 100000 in
theorem q1272 : Cond.constantLong "NextButOneModel" 239 57 ∈ uw := mem_uw 1272 (by decide +kernel) rfl
set_option maxRecDepth 100000 in
theorem q1273 : Cond.methodLink "NextButOneModel" 241 yX8_nameOf ∈ uw := mem_uw 1273 (by decide +kernel) rfl
set_option maxRecDepth 100000 in
theorem q1274 : Cond.static yX8_nameOf ∈ uw := mem_uw 1274 (by decide +kernel) rfl
set_option maxRecDepth 100000 in
theorem q1275 : Cond.code yX8_nameOf cX8_nameOf 1 (some .int) ∈ uw := mem_uw 1275 rfl rfl
set_option maxRecDepth 100000 in
theorem q1276 : Cond.methodLink "NextButOneModel" 244 yX8_isOpenRead ∈ uw := mem_uw 1276 (by decide +kernel) rfl
set_option maxRecDepth 100000 in
theorem q1278 : Cond.instanceMethod yX8_isOpenRead ∈ uw := mem_uw 1278 (by decide +kernel) rfl
set_option maxRecDepth 100000 in
theorem q1279 : Cond.code yX8_isOpenRead cX8_isOpenRead 2 (some .boolean) ∈ uw := mem_uw 1279 rfl rfl
set_option maxRecDepth 100000 in
theorem q1280 : Cond.methodLink "NextButOneLaw" 132 yX8_gives ∈ uw := mem_uw 1280 (by decide +kernel) rfl
set_option maxRecDepth 100000 in
theorem q1281 : Cond.instanceMethod yX8_gives ∈ uw := mem_uw 1281 (by decide +kernel) rfl
set_option maxRecDepth 100000 in
theorem q1282 : Cond.selects "NextButOneModel" yX8_gives yX8_gives ∈ uw := mem_uw 1282 (by decide +kernel) rfl
set_option maxRecDepth 100000 in
theorem q1283 : Cond.code yX8_gives cX8_gives 3 (some .int) ∈ uw := mem_uw 1283 rfl rfl
set_option maxRecDepth 100000 in
theorem q1284 : Cond.methodLink "NextButOneLaw" 136 yX8_untell ∈ uw := mem_uw 1284 (by decide +kernel) rfl
set_option maxRecDepth 100000 in
theorem q1285 : Cond.instanceMethod yX8_untell ∈ uw := mem_uw 1285 (by decide +kernel) rfl
set_option maxRecDepth 100000 in
theorem q1286 : Cond.selects "NextButOneModel" yX8_untell yX8_untell ∈ uw := mem_uw 1286 (by decide +kernel) rfl
set_option maxRecDepth 100000 in
theorem q1287 : Cond.code yX8_untell cX8_untell 1 (some .int) ∈ uw := mem_uw 1287 rfl rfl
set_option maxRecDepth 100000 in
theorem q1288 : Cond.methodLink "NextButOneLaw" 140 yX8_sheet ∈ uw := mem_uw 1288 (by decide +kernel) rfl
set_option maxRecDepth 100000 in
theorem q1289 : Cond.instanceMethod yX8_sheet ∈ uw := mem_uw 1289 (by decide +kernel) rfl
set_option maxRecDepth 100000 in
theorem q1290 : Cond.selects "NextButOneModel" yX8_sheet yX8_sheet ∈ uw := mem_uw 1290 (by decide +kernel) rfl
set_option maxRecDepth 100000 in
theorem q1291 : Cond.code yX8_sheet cX8_sheet 5 (some .int) ∈ uw := mem_uw 1291 rfl rfl
set_option maxRecDepth 100000 in
theorem q1292 : Cond.methodLink "NextButOneModel" 253 yX8_isSheet ∈ uw := mem_uw 1292 (by decide +kernel) rfl
set_option maxRecDepth 100000 in
theorem q1293 : Cond.static yX8_isSheet ∈ uw := mem_uw 1293 (by decide +kernel) rfl
set_option maxRecDepth 100000 in
theorem q1294 : Cond.code yX8_isSheet cX8_isSheet 1 (some .boolean) ∈ uw := mem_uw 1294 rfl rfl
set_option maxRecDepth 100000 in
theorem q1295 : Cond.constant "NextButOneModel" 256 (-1000000007) ∈ uw := mem_uw 1295 (by decide +kernel) rfl
set_option maxRecDepth 100000 in
theorem q1296 : Cond.methodLink "NextButOneLaw" 147 yX8_write ∈ uw := mem_uw 1296 (by decide +kernel) rfl
set_option maxRecDepth 100000 in
theorem q1297 : Cond.instanceMethod yX8_write ∈ uw := mem_uw 1297 (by decide +kernel) rfl
set_option maxRecDepth 100000 in
theorem q1298 : Cond.selects "NextButOneModel" yX8_write yX8_write ∈ uw := mem_uw 1298 (by decide +kernel) rfl
set_option maxRecDepth 100000 in
theorem q1299 : Cond.code yX8_write cX8_write 7 (some .long) ∈ uw := mem_uw 1299 rfl rfl
set_option maxRecDepth 100000 in
theorem q1300 : Cond.constant "NextButOneModel" 257 (-1000000006) ∈ uw := mem_uw 1300 (by decide +kernel) rfl
set_option maxRecDepth 100000 in
theorem q1301 : Cond.methodLink "NextButOneModel" 258 yX8_narrow ∈ uw := mem_uw 1301 (by decide +kernel) rfl
set_option maxRecDepth 100000 in
theorem q1302 : Cond.static yX8_narrow ∈ uw := mem_uw 1302 (by decide +kernel) rfl
set_option maxRecDepth 100000 in
theorem q1303 : Cond.code yX8_narrow cX8_narrow 3 (some .long) ∈ uw := mem_uw 1303 rfl rfl
set_option maxRecDepth 100000 in
theorem q1304 : Cond.methodLink "NextButOneLaw" 152 yX8_copy ∈ uw := mem_uw 1304 (by decide +kernel) rfl
set_option maxRecDepth 100000 in
theorem q1305 : Cond.instanceMethod yX8_copy ∈ uw := mem_uw 1305 (by decide +kernel) rfl
set_option maxRecDepth 100000 in
theorem q1306 : Cond.selects "NextButOneModel" yX8_copy yX8_copy ∈ uw := mem_uw 1306 (by decide +kernel) rfl
set_option maxRecDepth 100000 in
theorem q1307 : Cond.code yX8_copy cX8_copy 10 (some .int) ∈ uw := mem_uw 1307 rfl rfl
set_option maxRecDepth 100000 in
theorem q1308 : Cond.methodLink "NextButOneLaw" 156 yX8_lays ∈ uw := mem_uw 1308 (by decide +kernel) rfl
set_option maxRecDepth 100000 in
theorem q1309 : Cond.instanceMethod yX8_lays ∈ uw := mem_uw 1309 (by decide +kernel) rfl
set_option maxRecDepth 100000 in
theorem q1310 : Cond.selects "NextButOneModel" yX8_lays yX8_lays ∈ uw := mem_uw 1310 (by decide +kernel) rfl
set_option maxRecDepth 100000 in
theorem q1311 : Cond.code yX8_lays cX8_lays 7 (some .int) ∈ uw := mem_uw 1311 rfl rfl
set_option maxRecDepth 100000 in
theorem q1312 : Cond.methodLink "NextButOneLaw" 160 yX8_read ∈ uw := mem_uw 1312 (by decide +kernel) rfl
set_option maxRecDepth 100000 in
theorem q1313 : Cond.instanceMethod yX8_read ∈ uw := mem_uw 1313 (by decide +kernel) rfl
set_option maxRecDepth 100000 in
theorem q1314 : Cond.selects "NextButOneModel" yX8_read yX8_read ∈ uw := mem_uw 1314 (by decide +kernel) rfl
set_option maxRecDepth 100000 in
theorem q1315 : Cond.code yX8_read cX8_read 4 (some .int) ∈ uw := mem_uw 1315 rfl rfl
set_option maxRecDepth 100000 in
theorem q1316 : Cond.methodLink "NextButOneLaw" 164 yX8_image ∈ uw := mem_uw 1316 (by decide +kernel) rfl
set_option maxRecDepth 100000 in
theorem q1317 : Cond.instanceMethod yX8_image ∈ uw := mem_uw 1317 (by decide +kernel) rfl
set_option maxRecDepth 100000 in
theorem q1318 : Cond.selects "NextButOneModel" yX8_image yX8_image ∈ uw := mem_uw 1318 (by decide +kernel) rfl
set_option maxRecDepth 100000 in
theorem q1319 : Cond.code yX8_image cX8_image 2 (some .int) ∈ uw := mem_uw 1319 rfl rfl
set_option maxRecDepth 100000 in
theorem q1320 : Cond.methodLink "NextButOneLaw" 168 yX8_undo ∈ uw := mem_uw 1320 (by decide +kernel) rfl
set_option maxRecDepth 100000 in
theorem q1321 : Cond.instanceMethod yX8_undo ∈ uw := mem_uw 1321 (by decide +kernel) rfl
set_option maxRecDepth 100000 in
theorem q1322 : Cond.selects "NextButOneModel" yX8_undo yX8_undo ∈ uw := mem_uw 1322 (by decide +kernel) rfl
set_option maxRecDepth 100000 in
theorem q1323 : Cond.code yX8_undo cX8_undo 2 (some .int) ∈ uw := mem_uw 1323 rfl rfl
set_option maxRecDepth 100000 in
theorem q1324 : Cond.methodLink "NextButOneLaw" 172 yX8_tear ∈ uw := mem_uw 1324 (by decide +kernel) rfl
set_option maxRecDepth 100000 in
theorem q1325 : Cond.instanceMethod yX8_tear ∈ uw := mem_uw 1325 (by decide +kernel) rfl
set_option maxRecDepth 100000 in
theorem q1326 : Cond.selects "NextButOneModel" yX8_tear yX8_tear ∈ uw := mem_uw 1326 (by decide +kernel) rfl
set_option maxRecDepth 100000 in
theorem q1327 : Cond.code yX8_tear cX8_tear 2 (some .int) ∈ uw := mem_uw 1327 rfl rfl
set_option maxRecDepth 100000 in
theorem q1328 : Cond.methodLink "NextButOneLaw" 176 yX8_count ∈ uw := mem_uw 1328 (by decide +kernel) rfl
set_option maxRecDepth 100000 in
theorem q1329 : Cond.instanceMethod yX8_count ∈ uw := mem_uw 1329 (by decide +kernel) rfl
set_option maxRecDepth 100000 in
theorem q1330 : Cond.selects "NextButOneModel" yX8_count yX8_count ∈ uw := mem_uw 1330 (by decide +kernel) rfl
set_option maxRecDepth 100000 in
theorem q1331 : Cond.code yX8_count cX8_count 2 (some .int) ∈ uw := mem_uw 1331 rfl rfl
set_option maxRecDepth 100000 in
theorem q1332 : Cond.methodLink "NextButOneModel" 265 yX8_ofAll ∈ uw := mem_uw 1332 (by decide +kernel) rfl
set_option maxRecDepth 100000 in
theorem q1334 : Cond.instanceMethod yX8_ofAll ∈ uw := mem_uw 1334 (by decide +kernel) rfl
set_option maxRecDepth 100000 in
theorem q1335 : Cond.code yX8_ofAll cX8_ofAll 4 (some .int) ∈ uw := mem_uw 1335 rfl rfl
set_option maxRecDepth 100000 in
theorem q1336 : Cond.methodLink "NextButOneModel" 268 yX8_namedMany ∈ uw := mem_uw 1336 (by decide +kernel) rfl
set_option maxRecDepth 100000 in
theorem q1338 : Cond.instanceMethod yX8_namedMany ∈ uw := mem_uw 1338 (by decide +kernel) rfl
set_option maxRecDepth 100000 in
theorem q1339 : Cond.code yX8_namedMany cX8_namedMany 3 (some .int) ∈ uw := mem_uw 1339 rfl rfl
set_option maxRecDepth 100000 in
theorem q1340 : Cond.methodLink "NextButOneLaw" 180 yX8_status ∈ uw := mem_uw 1340 (by decide +kernel) rfl
set_option maxRecDepth 100000 in
theorem q1341 : Cond.instanceMethod yX8_status ∈ uw := mem_uw 1341 (by decide +kernel) rfl
set_option maxRecDepth 100000 in
theorem q1342 : Cond.selects "NextButOneModel" yX8_status yX8_status ∈ uw := mem_uw 1342 (by decide +kernel) rfl
set_option maxRecDepth 100000 in
theorem q1343 : Cond.code yX8_status cX8_status 2 (some .int) ∈ uw := mem_uw 1343 rfl rfl
set_option maxRecDepth 100000 in
theorem q1344 : Cond.constantLong "NextButOneModel" 271 (-1) ∈ uw := mem_uw 1344 (by decide +kernel) rfl
set_option maxRecDepth 100000 in
theorem q1345 : Cond.constantLong "NextButOneLaw" 141 4294967295 ∈ uw := mem_uw 1345 (by decide +kernel) rfl
set_option maxRecDepth 100000 in
theorem q1346 : Cond.fieldLink "java/lang/String" 15 "java/lang/String" "coder" "B" ∈ uw := mem_uw 1346 (by decide +kernel) rfl
set_option maxRecDepth 100000 in
theorem q1347 : Cond.fieldLink "java/lang/String" 9 "java/lang/String" "value" "[B" ∈ uw := mem_uw 1347 (by decide +kernel) rfl
set_option maxRecDepth 100000 in
theorem q0 : Cond.selects "NextButOne" yX7_finding yX7_finding ∈ uw := mem_uw 0 (by decide +kernel) rfl
set_option maxRecDepth 100000 in
theorem q1 : Cond.selects "NextButOne" yX7_isOne yX7_isOne ∈ uw := mem_uw 1 (by decide +kernel) rfl
set_option maxRecDepth 100000 in
theorem q2 : Cond.selects "NextButOne$Seat" yX4_wayOf yX4_wayOf ∈ uw := mem_uw 2 (by decide +kernel) rfl
set_option maxRecDepth 100000 in
theorem q3 : Cond.selects "NextButOne$Seat" yX4_measure yX4_measure ∈ uw := mem_uw 3 (by decide +kernel) rfl
set_option maxRecDepth 100000 in
theorem q4 : Cond.selects "NextButOne$Seat" yX4_moveUp yX4_moveUp ∈ uw := mem_uw 4 (by decide +kernel) rfl
set_option maxRecDepth 100000 in
theorem q5 : Cond.selects "NextButOne" yX7_areTwo yX7_areTwo ∈ uw := mem_uw 5 (by decide +kernel) rfl
set_option maxRecDepth 100000 in
theorem q6 : Cond.selects "NextButOne" yX7_isPlace yX7_isPlace ∈ uw := mem_uw 6 (by decide +kernel) rfl
set_option maxRecDepth 100000 in
theorem q7 : Cond.selects "NextButOne" yX7_mayStandInLine yX7_mayStandInLine ∈ uw := mem_uw 7 (by decide +kernel) rfl
set_option maxRecDepth 100000 in
theorem q8 : Cond.selects "NextButOne$Seat" yX4_bury yX4_bury ∈ uw := mem_uw 8 (by decide +kernel) rfl
set_option maxRecDepth 100000 in
theorem q9 : Cond.selects "NextButOne$Tape" yX6_readT yX6_readT ∈ uw := mem_uw 9 (by decide +kernel) rfl
set_option maxRecDepth 100000 in
theorem q10 : Cond.selects "NextButOne$Tape" yX6_readA yX6_readA ∈ uw := mem_uw 10 (by decide +kernel) rfl
set_option maxRecDepth 100000 in
theorem q11 : Cond.selects "NextButOne$Tape" yX6_readB yX6_readB ∈ uw := mem_uw 11 (by decide +kernel) rfl
set_option maxRecDepth 100000 in
theorem q12 : Cond.selects "NextButOne$Tape" yX6_readS yX6_readS ∈ uw := mem_uw 12 (by decide +kernel) rfl
set_option maxRecDepth 100000 in
theorem q13 : Cond.selects "NextButOne$Tape" yX6_readP yX6_readP ∈ uw := mem_uw 13 (by decide +kernel) rfl
set_option maxRecDepth 100000 in
theorem q14 : Cond.selects "NextButOne$Tape" yX6_readQ yX6_readQ ∈ uw := mem_uw 14 (by decide +kernel) rfl
set_option maxRecDepth 100000 in
theorem q15 : Cond.selects "NextButOne$Tape" yX6_seesDigit yX6_seesDigit ∈ uw := mem_uw 15 (by decide +kernel) rfl
set_option maxRecDepth 100000 in
theorem q16 : Cond.selects "NextButOne$Tape" yX6_readNumber yX6_readNumber ∈ uw := mem_uw 16 (by decide +kernel) rfl
set_option maxRecDepth 100000 in
theorem q17 : Cond.selects "NextButOne$Tape" yX6_takes yX6_takes ∈ uw := mem_uw 17 (by decide +kernel) rfl
set_option maxRecDepth 100000 in
theorem q18 : Cond.selects "NextButOne$Tape" yX6_sees yX6_sees ∈ uw := mem_uw 18 (by decide +kernel) rfl
set_option maxRecDepth 100000 in
theorem q19 : Cond.selects "NextButOneModel" yX8_finds yX8_finds ∈ uw := mem_uw 19 (by decide +kernel) rfl
set_option maxRecDepth 100000 in
theorem q20 : Cond.selects "NextButOneModel" yX8_isPerson yX8_isPerson ∈ uw := mem_uw 20 (by decide +kernel) rfl
set_option maxRecDepth 100000 in
theorem q21 : Cond.selects "NextButOneModel" yX8_has0 yX8_has0 ∈ uw := mem_uw 21 (by decide +kernel) rfl
set_option maxRecDepth 100000 in
theorem q22 : Cond.selects "NextButOneModel" yX8_placeOf yX8_placeOf ∈ uw := mem_uw 22 (by decide +kernel) rfl
set_option maxRecDepth 100000 in
theorem q23 : Cond.selects "NextButOneModel" yX8_would yX8_would ∈ uw := mem_uw 23 (by decide +kernel) rfl
set_option maxRecDepth 100000 in
theorem q24 : Cond.selects "NextButOneModel" yX8_mayName yX8_mayName ∈ uw := mem_uw 24 (by decide +kernel) rfl
set_option maxRecDepth 100000 in
theorem q25 : Cond.selects "NextButOneModel" yX8_isAlive yX8_isAlive ∈ uw := mem_uw 25 (by decide +kernel) rfl
set_option maxRecDepth 100000 in
theorem q26 : Cond.selects "NextButOneModel" yX8_firstNamed yX8_firstNamed ∈ uw := mem_uw 26 (by decide +kernel) rfl
set_option maxRecDepth 100000 in
theorem q27 : Cond.selects "NextButOneModel" yX8_bestBy yX8_bestBy ∈ uw := mem_uw 27 (by decide +kernel) rfl
set_option maxRecDepth 100000 in
theorem q28 : Cond.selects "NextButOneModel" yX8_valueBy yX8_valueBy ∈ uw := mem_uw 28 (by decide +kernel) rfl
set_option maxRecDepth 100000 in
theorem q29 : Cond.selects "NextButOneModel" yX8_likesOf yX8_likesOf ∈ uw := mem_uw 29 (by decide +kernel) rfl
set_option maxRecDepth 100000 in
theorem q30 : Cond.selects "NextButOneModel" yX8_givenBy yX8_givenBy ∈ uw := mem_uw 30 (by decide +kernel) rfl
set_option maxRecDepth 100000 in
theorem q31 : Cond.selects "NextButOneModel" yX8_named yX8_named ∈ uw := mem_uw 31 (by decide +kernel) rfl
set_option maxRecDepth 100000 in
theorem q32 : Cond.selects "NextButOneModel" yX8_worthOf yX8_worthOf ∈ uw := mem_uw 32 (by decide +kernel) rfl
set_option maxRecDepth 100000 in
theorem q33 : Cond.selects "NextButOneModel" yX8_followsBy yX8_followsBy ∈ uw := mem_uw 33 (by decide +kernel) rfl
set_option maxRecDepth 100000 in
theorem q34 : Cond.selects "NextButOneModel" yX8_comes yX8_comes ∈ uw := mem_uw 34 (by decide +kernel) rfl
set_option maxRecDepth 100000 in
theorem q35 : Cond.selects "NextButOneModel" yX8_becomes yX8_becomes ∈ uw := mem_uw 35 (by decide +kernel) rfl
set_option maxRecDepth 100000 in
theorem q36 : Cond.selects "NextButOneModel" yX8_cutsLine yX8_cutsLine ∈ uw := mem_uw 36 (by decide +kernel) rfl
set_option maxRecDepth 100000 in
theorem q37 : Cond.selects "NextButOneModel" yX8_year yX8_year ∈ uw := mem_uw 37 (by decide +kernel) rfl
set_option maxRecDepth 100000 in
theorem q38 : Cond.selects "NextButOneModel" yX8_dies yX8_dies ∈ uw := mem_uw 38 (by decide +kernel) rfl
set_option maxRecDepth 100000 in
theorem q39 : Cond.selects "NextButOneModel" yX8_laysBy yX8_laysBy ∈ uw := mem_uw 39 (by decide +kernel) rfl
set_option maxRecDepth 100000 in
theorem q40 : Cond.selects "NextButOneModel" yX8_laysBack yX8_laysBack ∈ uw := mem_uw 40 (by decide +kernel) rfl
set_option maxRecDepth 100000 in
theorem q41 : Cond.selects "NextButOneModel" yX8_findEver yX8_findEver ∈ uw := mem_uw 41 (by decide +kernel) rfl
set_option maxRecDepth 100000 in
theorem q42 : Cond.selects "NextButOneModel" yX8_asOne yX8_asOne ∈ uw := mem_uw 42 (by decide +kernel) rfl
set_option maxRecDepth 100000 in
theorem q43 : Cond.selects "NextButOneModel" yX8_hasIn yX8_hasIn ∈ uw := mem_uw 43 (by decide +kernel) rfl
set_option maxRecDepth 100000 in
theorem q44 : Cond.selects "NextButOneModel" yX8_keptBy yX8_keptBy ∈ uw := mem_uw 44 (by decide +kernel) rfl
set_option maxRecDepth 100000 in
theorem q45 : Cond.selects "NextButOneModel" yX8_isSignRead yX8_isSignRead ∈ uw := mem_uw 45 (by decide +kernel) rfl
set_option maxRecDepth 100000 in
theorem q46 : Cond.selects "NextButOneModel" yX8_doneBy yX8_doneBy ∈ uw := mem_uw 46 (by decide +kernel) rfl
set_option maxRecDepth 100000 in
theorem q47 : Cond.selects "NextButOneModel" yX8_puts yX8_puts ∈ uw := mem_uw 47 (by decide +kernel) rfl
set_option maxRecDepth 100000 in
theorem q48 : Cond.selects "NextButOneModel" yX8_doneAhead yX8_doneAhead ∈ uw := mem_uw 48 (by decide +kernel) rfl
set_option maxRecDepth 100000 in
theorem q49 : Cond.selects "NextButOneModel" yX8_waits yX8_waits ∈ uw := mem_uw 49 (by decide +kernel) rfl
set_option maxRecDepth 100000 in
theorem q50 : Cond.selects "NextButOneModel" yX8_isOpenRead yX8_isOpenRead ∈ uw := mem_uw 50 (by decide +kernel) rfl
set_option maxRecDepth 100000 in
theorem q51 : Cond.selects "NextButOneModel" yX8_ofAll yX8_ofAll ∈ uw := mem_uw 51 (by decide +kernel) rfl
set_option maxRecDepth 100000 in
theorem q52 : Cond.selects "NextButOneModel" yX8_namedMany yX8_namedMany ∈ uw := mem_uw 52 (by decide +kernel) rfl
theorem pdX0_init : yX0_init.cls ≠ "java/lang/invoke/MethodHandle" ∧ yX0_init.cls ≠ "java/lang/invoke/VarHandle" ∧ (parseMethodDescriptor yX0_init.desc).map (fun d => d.parameters.length) = some 1 := by decide +kernel
theorem pdX0_start : yX0_start.cls ≠ "java/lang/invoke/MethodHandle" ∧ yX0_start.cls ≠ "java/lang/invoke/VarHandle" ∧ (parseMethodDescriptor yX0_start.desc).map (fun d => d.parameters.length) = some 0 := by decide +kernel
theorem pdX0_tally : yX0_tally.cls ≠ "java/lang/invoke/MethodHandle" ∧ yX0_tally.cls ≠ "java/lang/invoke/VarHandle" ∧ (parseMethodDescriptor yX0_tally.desc).map (fun d => d.parameters.length) = some 1 := by decide +kernel
theorem pdX0_worthFor : yX0_worthFor.cls ≠ "java/lang/invoke/MethodHandle" ∧ yX0_worthFor.cls ≠ "java/lang/invoke/VarHandle" ∧ (parseMethodDescriptor yX0_worthFor.desc).map (fun d => d.parameters.length) = some 1 := by decide +kernel
theorem pdX0_goRound : yX0_goRound.cls ≠ "java/lang/invoke/MethodHandle" ∧ yX0_goRound.cls ≠ "java/lang/invoke/VarHandle" ∧ (parseMethodDescriptor yX0_goRound.desc).map (fun d => d.parameters.length) = some 0 := by decide +kernel
theorem pdX0_whoGoesRound : yX0_whoGoesRound.cls ≠ "java/lang/invoke/MethodHandle" ∧ yX0_whoGoesRound.cls ≠ "java/lang/invoke/VarHandle" ∧ (parseMethodDescriptor yX0_whoGoesRound.desc).map (fun d => d.parameters.length) = some 0 := by decide +kernel
theorem pdX0_noteWithout : yX0_noteWithout.cls ≠ "java/lang/invoke/MethodHandle" ∧ yX0_noteWithout.cls ≠ "java/lang/invoke/VarHandle" ∧ (parseMethodDescriptor yX0_noteWithout.desc).map (fun d => d.parameters.length) = some 0 := by decide +kernel
theorem pdX0_moreFor : yX0_moreFor.cls ≠ "java/lang/invoke/MethodHandle" ∧ yX0_moreFor.cls ≠ "java/lang/invoke/VarHandle" ∧ (parseMethodDescriptor yX0_moreFor.desc).map (fun d => d.parameters.length) = some 1 := by decide +kernel
theorem pdX1_init : yX1_init.cls ≠ "java/lang/invoke/MethodHandle" ∧ yX1_init.cls ≠ "java/lang/invoke/VarHandle" ∧ (parseMethodDescriptor yX1_init.desc).map (fun d => d.parameters.length) = some 0 := by decide +kernel
theorem pdX1_takeFrom : yX1_takeFrom.cls ≠ "java/lang/invoke/MethodHandle" ∧ yX1_takeFrom.cls ≠ "java/lang/invoke/VarHandle" ∧ (parseMethodDescriptor yX1_takeFrom.desc).map (fun d => d.parameters.length) = some 1 := by decide +kernel
theorem pdX1_join : yX1_join.cls ≠ "java/lang/invoke/MethodHandle" ∧ yX1_join.cls ≠ "java/lang/invoke/VarHandle" ∧ (parseMethodDescriptor yX1_join.desc).map (fun d => d.parameters.length) = some 3 := by decide +kernel
theorem pdX1_trait : yX1_trait.cls ≠ "java/lang/invoke/MethodHandle" ∧ yX1_trait.cls ≠ "java/lang/invoke/VarHandle" ∧ (parseMethodDescriptor yX1_trait.desc).map (fun d => d.parameters.length) = some 1 := by decide +kernel
theorem pdX1_alive : yX1_alive.cls ≠ "java/lang/invoke/MethodHandle" ∧ yX1_alive.cls ≠ "java/lang/invoke/VarHandle" ∧ (parseMethodDescriptor yX1_alive.desc).map (fun d => d.parameters.length) = some 0 := by decide +kernel
theorem pdX1_isAlive : yX1_isAlive.cls ≠ "java/lang/invoke/MethodHandle" ∧ yX1_isAlive.cls ≠ "java/lang/invoke/VarHandle" ∧ (parseMethodDescriptor yX1_isAlive.desc).map (fun d => d.parameters.length) = some 1 := by decide +kernel
theorem pdX1_ofSort : yX1_ofSort.cls ≠ "java/lang/invoke/MethodHandle" ∧ yX1_ofSort.cls ≠ "java/lang/invoke/VarHandle" ∧ (parseMethodDescriptor yX1_ofSort.desc).map (fun d => d.parameters.length) = some 1 := by decide +kernel
theorem pdX1_likedByOthers : yX1_likedByOthers.cls ≠ "java/lang/invoke/MethodHandle" ∧ yX1_likedByOthers.cls ≠ "java/lang/invoke/VarHandle" ∧ (parseMethodDescriptor yX1_likedByOthers.desc).map (fun d => d.parameters.length) = some 1 := by decide +kernel
theorem pdX1_worthOf : yX1_worthOf.cls ≠ "java/lang/invoke/MethodHandle" ∧ yX1_worthOf.cls ≠ "java/lang/invoke/VarHandle" ∧ (parseMethodDescriptor yX1_worthOf.desc).map (fun d => d.parameters.length) = some 2 := by decide +kernel
theorem pdX1_grow : yX1_grow.cls ≠ "java/lang/invoke/MethodHandle" ∧ yX1_grow.cls ≠ "java/lang/invoke/VarHandle" ∧ (parseMethodDescriptor yX1_grow.desc).map (fun d => d.parameters.length) = some 0 := by decide +kernel
theorem pdX1_drawLots : yX1_drawLots.cls ≠ "java/lang/invoke/MethodHandle" ∧ yX1_drawLots.cls ≠ "java/lang/invoke/VarHandle" ∧ (parseMethodDescriptor yX1_drawLots.desc).map (fun d => d.parameters.length) = some 1 := by decide +kernel
theorem pdX2_init : yX2_init.cls ≠ "java/lang/invoke/MethodHandle" ∧ yX2_init.cls ≠ "java/lang/invoke/VarHandle" ∧ (parseMethodDescriptor yX2_init.desc).map (fun d => d.parameters.length) = some 0 := by decide +kernel
theorem pdX2_takeFrom : yX2_takeFrom.cls ≠ "java/lang/invoke/MethodHandle" ∧ yX2_takeFrom.cls ≠ "java/lang/invoke/VarHandle" ∧ (parseMethodDescriptor yX2_takeFrom.desc).map (fun d => d.parameters.length) = some 1 := by decide +kernel
theorem pdX3_init : yX3_init.cls ≠ "java/lang/invoke/MethodHandle" ∧ yX3_init.cls ≠ "java/lang/invoke/VarHandle" ∧ (parseMethodDescriptor yX3_init.desc).map (fun d => d.parameters.length) = some 0 := by decide +kernel
theorem pdX3_isThere : yX3_isThere.cls ≠ "java/lang/invoke/MethodHandle" ∧ yX3_isThere.cls ≠ "java/lang/invoke/VarHandle" ∧ (parseMethodDescriptor yX3_isThere.desc).map (fun d => d.parameters.length) = some 0 := by decide +kernel
theorem pdX3_takeFrom : yX3_takeFrom.cls ≠ "java/lang/invoke/MethodHandle" ∧ yX3_takeFrom.cls ≠ "java/lang/invoke/VarHandle" ∧ (parseMethodDescriptor yX3_takeFrom.desc).map (fun d => d.parameters.length) = some 1 := by decide +kernel
theorem pdX3_putNumber : yX3_putNumber.cls ≠ "java/lang/invoke/MethodHandle" ∧ yX3_putNumber.cls ≠ "java/lang/invoke/VarHandle" ∧ (parseMethodDescriptor yX3_putNumber.desc).map (fun d => d.parameters.length) = some 1 := by decide +kernel
theorem pdX3_putSign : yX3_putSign.cls ≠ "java/lang/invoke/MethodHandle" ∧ yX3_putSign.cls ≠ "java/lang/invoke/VarHandle" ∧ (parseMethodDescriptor yX3_putSign.desc).map (fun d => d.parameters.length) = some 1 := by decide +kernel
theorem pdX3_work : yX3_work.cls ≠ "java/lang/invoke/MethodHandle" ∧ yX3_work.cls ≠ "java/lang/invoke/VarHandle" ∧ (parseMethodDescriptor yX3_work.desc).map (fun d => d.parameters.length) = some 3 := by decide +kernel
theorem pdX3_truth : yX3_truth.cls ≠ "java/lang/invoke/MethodHandle" ∧ yX3_truth.cls ≠ "java/lang/invoke/VarHandle" ∧ (parseMethodDescriptor yX3_truth.desc).map (fun d => d.parameters.length) = some 1 := by decide +kernel
theorem pdX3_join : yX3_join.cls ≠ "java/lang/invoke/MethodHandle" ∧ yX3_join.cls ≠ "java/lang/invoke/VarHandle" ∧ (parseMethodDescriptor yX3_join.desc).map (fun d => d.parameters.length) = some 3 := by decide +kernel
theorem pdX4_init : yX4_init.cls ≠ "java/lang/invoke/MethodHandle" ∧ yX4_init.cls ≠ "java/lang/invoke/VarHandle" ∧ (parseMethodDescriptor yX4_init.desc).map (fun d => d.parameters.length) = some 3 := by decide +kernel
theorem pdX4_takeFrom : yX4_takeFrom.cls ≠ "java/lang/invoke/MethodHandle" ∧ yX4_takeFrom.cls ≠ "java/lang/invoke/VarHandle" ∧ (parseMethodDescriptor yX4_takeFrom.desc).map (fun d => d.parameters.length) = some 1 := by decide +kernel
theorem pdX4_keepWord : yX4_keepWord.cls ≠ "java/lang/invoke/MethodHandle" ∧ yX4_keepWord.cls ≠ "java/lang/invoke/VarHandle" ∧ (parseMethodDescriptor yX4_keepWord.desc).map (fun d => d.parameters.length) = some 2 := by decide +kernel
theorem pdX4_giveRule : yX4_giveRule.cls ≠ "java/lang/invoke/MethodHandle" ∧ yX4_giveRule.cls ≠ "java/lang/invoke/VarHandle" ∧ (parseMethodDescriptor yX4_giveRule.desc).map (fun d => d.parameters.length) = some 2 := by decide +kernel
theorem pdX4_placeOf : yX4_placeOf.cls ≠ "java/lang/invoke/MethodHandle" ∧ yX4_placeOf.cls ≠ "java/lang/invoke/VarHandle" ∧ (parseMethodDescriptor yX4_placeOf.desc).map (fun d => d.parameters.length) = some 1 := by decide +kernel
theorem pdX4_named : yX4_named.cls ≠ "java/lang/invoke/MethodHandle" ∧ yX4_named.cls ≠ "java/lang/invoke/VarHandle" ∧ (parseMethodDescriptor yX4_named.desc).map (fun d => d.parameters.length) = some 0 := by decide +kernel
theorem pdX4_firstNamed : yX4_firstNamed.cls ≠ "java/lang/invoke/MethodHandle" ∧ yX4_firstNamed.cls ≠ "java/lang/invoke/VarHandle" ∧ (parseMethodDescriptor yX4_firstNamed.desc).map (fun d => d.parameters.length) = some 0 := by decide +kernel
theorem pdX4_ruledByAll : yX4_ruledByAll.cls ≠ "java/lang/invoke/MethodHandle" ∧ yX4_ruledByAll.cls ≠ "java/lang/invoke/VarHandle" ∧ (parseMethodDescriptor yX4_ruledByAll.desc).map (fun d => d.parameters.length) = some 0 := by decide +kernel
theorem pdX4_code : yX4_code.cls ≠ "java/lang/invoke/MethodHandle" ∧ yX4_code.cls ≠ "java/lang/invoke/VarHandle" ∧ (parseMethodDescriptor yX4_code.desc).map (fun d => d.parameters.length) = some 0 := by decide +kernel
theorem pdX4_allowed : yX4_allowed.cls ≠ "java/lang/invoke/MethodHandle" ∧ yX4_allowed.cls ≠ "java/lang/invoke/VarHandle" ∧ (parseMethodDescriptor yX4_allowed.desc).map (fun d => d.parameters.length) = some 1 := by decide +kernel
theorem pdX4_choice : yX4_choice.cls ≠ "java/lang/invoke/MethodHandle" ∧ yX4_choice.cls ≠ "java/lang/invoke/VarHandle" ∧ (parseMethodDescriptor yX4_choice.desc).map (fun d => d.parameters.length) = some 2 := by decide +kernel
theorem pdX4_wayOf : yX4_wayOf.cls ≠ "java/lang/invoke/MethodHandle" ∧ yX4_wayOf.cls ≠ "java/lang/invoke/VarHandle" ∧ (parseMethodDescriptor yX4_wayOf.desc).map (fun d => d.parameters.length) = some 2 := by decide +kernel
theorem pdX4_measure : yX4_measure.cls ≠ "java/lang/invoke/MethodHandle" ∧ yX4_measure.cls ≠ "java/lang/invoke/VarHandle" ∧ (parseMethodDescriptor yX4_measure.desc).map (fun d => d.parameters.length) = some 4 := by decide +kernel
theorem pdX4_whatFollows : yX4_whatFollows.cls ≠ "java/lang/invoke/MethodHandle" ∧ yX4_whatFollows.cls ≠ "java/lang/invoke/VarHandle" ∧ (parseMethodDescriptor yX4_whatFollows.desc).map (fun d => d.parameters.length) = some 3 := by decide +kernel
theorem pdX4_next : yX4_next.cls ≠ "java/lang/invoke/MethodHandle" ∧ yX4_next.cls ≠ "java/lang/invoke/VarHandle" ∧ (parseMethodDescriptor yX4_next.desc).map (fun d => d.parameters.length) = some 1 := by decide +kernel
theorem pdX4_moveUp : yX4_moveUp.cls ≠ "java/lang/invoke/MethodHandle" ∧ yX4_moveUp.cls ≠ "java/lang/invoke/VarHandle" ∧ (parseMethodDescriptor yX4_moveUp.desc).map (fun d => d.parameters.length) = some 0 := by decide +kernel
theorem pdX4_year : yX4_year.cls ≠ "java/lang/invoke/MethodHandle" ∧ yX4_year.cls ≠ "java/lang/invoke/VarHandle" ∧ (parseMethodDescriptor yX4_year.desc).map (fun d => d.parameters.length) = some 0 := by decide +kernel
theorem pdX4_bury : yX4_bury.cls ≠ "java/lang/invoke/MethodHandle" ∧ yX4_bury.cls ≠ "java/lang/invoke/VarHandle" ∧ (parseMethodDescriptor yX4_bury.desc).map (fun d => d.parameters.length) = some 0 := by decide +kernel
theorem pdX4_valueOf : yX4_valueOf.cls ≠ "java/lang/invoke/MethodHandle" ∧ yX4_valueOf.cls ≠ "java/lang/invoke/VarHandle" ∧ (parseMethodDescriptor yX4_valueOf.desc).map (fun d => d.parameters.length) = some 3 := by decide +kernel
theorem pdX5_init : yX5_init.cls ≠ "java/lang/invoke/MethodHandle" ∧ yX5_init.cls ≠ "java/lang/invoke/VarHandle" ∧ (parseMethodDescriptor yX5_init.desc).map (fun d => d.parameters.length) = some 0 := by decide +kernel
theorem pdX5_isMissing : yX5_isMissing.cls ≠ "java/lang/invoke/MethodHandle" ∧ yX5_isMissing.cls ≠ "java/lang/invoke/VarHandle" ∧ (parseMethodDescriptor yX5_isMissing.desc).map (fun d => d.parameters.length) = some 0 := by decide +kernel
theorem pdX5_lay : yX5_lay.cls ≠ "java/lang/invoke/MethodHandle" ∧ yX5_lay.cls ≠ "java/lang/invoke/VarHandle" ∧ (parseMethodDescriptor yX5_lay.desc).map (fun d => d.parameters.length) = some 2 := by decide +kernel
theorem pdX5_lowest : yX5_lowest.cls ≠ "java/lang/invoke/MethodHandle" ∧ yX5_lowest.cls ≠ "java/lang/invoke/VarHandle" ∧ (parseMethodDescriptor yX5_lowest.desc).map (fun d => d.parameters.length) = some 1 := by decide +kernel
theorem pdX5_holds : yX5_holds.cls ≠ "java/lang/invoke/MethodHandle" ∧ yX5_holds.cls ≠ "java/lang/invoke/VarHandle" ∧ (parseMethodDescriptor yX5_holds.desc).map (fun d => d.parameters.length) = some 2 := by decide +kernel
theorem pdX6_init : yX6_init.cls ≠ "java/lang/invoke/MethodHandle" ∧ yX6_init.cls ≠ "java/lang/invoke/VarHandle" ∧ (parseMethodDescriptor yX6_init.desc).map (fun d => d.parameters.length) = some 0 := by decide +kernel
theorem pdX6_put : yX6_put.cls ≠ "java/lang/invoke/MethodHandle" ∧ yX6_put.cls ≠ "java/lang/invoke/VarHandle" ∧ (parseMethodDescriptor yX6_put.desc).map (fun d => d.parameters.length) = some 1 := by decide +kernel
theorem pdX6_parse : yX6_parse.cls ≠ "java/lang/invoke/MethodHandle" ∧ yX6_parse.cls ≠ "java/lang/invoke/VarHandle" ∧ (parseMethodDescriptor yX6_parse.desc).map (fun d => d.parameters.length) = some 0 := by decide +kernel
theorem pdX6_sees : yX6_sees.cls ≠ "java/lang/invoke/MethodHandle" ∧ yX6_sees.cls ≠ "java/lang/invoke/VarHandle" ∧ (parseMethodDescriptor yX6_sees.desc).map (fun d => d.parameters.length) = some 1 := by decide +kernel
theorem pdX6_takes : yX6_takes.cls ≠ "java/lang/invoke/MethodHandle" ∧ yX6_takes.cls ≠ "java/lang/invoke/VarHandle" ∧ (parseMethodDescriptor yX6_takes.desc).map (fun d => d.parameters.length) = some 1 := by decide +kernel
theorem pdX6_seesDigit : yX6_seesDigit.cls ≠ "java/lang/invoke/MethodHandle" ∧ yX6_seesDigit.cls ≠ "java/lang/invoke/VarHandle" ∧ (parseMethodDescriptor yX6_seesDigit.desc).map (fun d => d.parameters.length) = some 0 := by decide +kernel
theorem pdX6_readT : yX6_readT.cls ≠ "java/lang/invoke/MethodHandle" ∧ yX6_readT.cls ≠ "java/lang/invoke/VarHandle" ∧ (parseMethodDescriptor yX6_readT.desc).map (fun d => d.parameters.length) = some 1 := by decide +kernel
theorem pdX6_readA : yX6_readA.cls ≠ "java/lang/invoke/MethodHandle" ∧ yX6_readA.cls ≠ "java/lang/invoke/VarHandle" ∧ (parseMethodDescriptor yX6_readA.desc).map (fun d => d.parameters.length) = some 1 := by decide +kernel
theorem pdX6_readB : yX6_readB.cls ≠ "java/lang/invoke/MethodHandle" ∧ yX6_readB.cls ≠ "java/lang/invoke/VarHandle" ∧ (parseMethodDescriptor yX6_readB.desc).map (fun d => d.parameters.length) = some 1 := by decide +kernel
theorem pdX6_readS : yX6_readS.cls ≠ "java/lang/invoke/MethodHandle" ∧ yX6_readS.cls ≠ "java/lang/invoke/VarHandle" ∧ (parseMethodDescriptor yX6_readS.desc).map (fun d => d.parameters.length) = some 1 := by decide +kernel
theorem pdX6_readP : yX6_readP.cls ≠ "java/lang/invoke/MethodHandle" ∧ yX6_readP.cls ≠ "java/lang/invoke/VarHandle" ∧ (parseMethodDescriptor yX6_readP.desc).map (fun d => d.parameters.length) = some 1 := by decide +kernel
theorem pdX6_readQ : yX6_readQ.cls ≠ "java/lang/invoke/MethodHandle" ∧ yX6_readQ.cls ≠ "java/lang/invoke/VarHandle" ∧ (parseMethodDescriptor yX6_readQ.desc).map (fun d => d.parameters.length) = some 1 := by decide +kernel
theorem pdX6_readNumber : yX6_readNumber.cls ≠ "java/lang/invoke/MethodHandle" ∧ yX6_readNumber.cls ≠ "java/lang/invoke/VarHandle" ∧ (parseMethodDescriptor yX6_readNumber.desc).map (fun d => d.parameters.length) = some 0 := by decide +kernel
theorem pdX7_init : yX7_init.cls ≠ "java/lang/invoke/MethodHandle" ∧ yX7_init.cls ≠ "java/lang/invoke/VarHandle" ∧ (parseMethodDescriptor yX7_init.desc).map (fun d => d.parameters.length) = some 0 := by decide +kernel
theorem pdX7_person : yX7_person.cls ≠ "java/lang/invoke/MethodHandle" ∧ yX7_person.cls ≠ "java/lang/invoke/VarHandle" ∧ (parseMethodDescriptor yX7_person.desc).map (fun d => d.parameters.length) = some 3 := by decide +kernel
theorem pdX7_of : yX7_of.cls ≠ "java/lang/invoke/MethodHandle" ∧ yX7_of.cls ≠ "java/lang/invoke/VarHandle" ∧ (parseMethodDescriptor yX7_of.desc).map (fun d => d.parameters.length) = some 2 := by decide +kernel
theorem pdX7_set : yX7_set.cls ≠ "java/lang/invoke/MethodHandle" ∧ yX7_set.cls ≠ "java/lang/invoke/VarHandle" ∧ (parseMethodDescriptor yX7_set.desc).map (fun d => d.parameters.length) = some 3 := by decide +kernel
theorem pdX7_as : yX7_as.cls ≠ "java/lang/invoke/MethodHandle" ∧ yX7_as.cls ≠ "java/lang/invoke/VarHandle" ∧ (parseMethodDescriptor yX7_as.desc).map (fun d => d.parameters.length) = some 2 := by decide +kernel
theorem pdX7_likes : yX7_likes.cls ≠ "java/lang/invoke/MethodHandle" ∧ yX7_likes.cls ≠ "java/lang/invoke/VarHandle" ∧ (parseMethodDescriptor yX7_likes.desc).map (fun d => d.parameters.length) = some 3 := by decide +kernel
theorem pdX7_worth : yX7_worth.cls ≠ "java/lang/invoke/MethodHandle" ∧ yX7_worth.cls ≠ "java/lang/invoke/VarHandle" ∧ (parseMethodDescriptor yX7_worth.desc).map (fun d => d.parameters.length) = some 3 := by decide +kernel
theorem pdX7_rule : yX7_rule.cls ≠ "java/lang/invoke/MethodHandle" ∧ yX7_rule.cls ≠ "java/lang/invoke/VarHandle" ∧ (parseMethodDescriptor yX7_rule.desc).map (fun d => d.parameters.length) = some 2 := by decide +kernel
theorem pdX7_sit : yX7_sit.cls ≠ "java/lang/invoke/MethodHandle" ∧ yX7_sit.cls ≠ "java/lang/invoke/VarHandle" ∧ (parseMethodDescriptor yX7_sit.desc).map (fun d => d.parameters.length) = some 1 := by decide +kernel
theorem pdX7_line : yX7_line.cls ≠ "java/lang/invoke/MethodHandle" ∧ yX7_line.cls ≠ "java/lang/invoke/VarHandle" ∧ (parseMethodDescriptor yX7_line.desc).map (fun d => d.parameters.length) = some 2 := by decide +kernel
theorem pdX7_may : yX7_may.cls ≠ "java/lang/invoke/MethodHandle" ∧ yX7_may.cls ≠ "java/lang/invoke/VarHandle" ∧ (parseMethodDescriptor yX7_may.desc).map (fun d => d.parameters.length) = some 1 := by decide +kernel
theorem pdX7_follows : yX7_follows.cls ≠ "java/lang/invoke/MethodHandle" ∧ yX7_follows.cls ≠ "java/lang/invoke/VarHandle" ∧ (parseMethodDescriptor yX7_follows.desc).map (fun d => d.parameters.length) = some 2 := by decide +kernel
theorem pdX7_come : yX7_come.cls ≠ "java/lang/invoke/MethodHandle" ∧ yX7_come.cls ≠ "java/lang/invoke/VarHandle" ∧ (parseMethodDescriptor yX7_come.desc).map (fun d => d.parameters.length) = some 0 := by decide +kernel
theorem pdX7_years : yX7_years.cls ≠ "java/lang/invoke/MethodHandle" ∧ yX7_years.cls ≠ "java/lang/invoke/VarHandle" ∧ (parseMethodDescriptor yX7_years.desc).map (fun d => d.parameters.length) = some 1 := by decide +kernel
theorem pdX7_seed : yX7_seed.cls ≠ "java/lang/invoke/MethodHandle" ∧ yX7_seed.cls ≠ "java/lang/invoke/VarHandle" ∧ (parseMethodDescriptor yX7_seed.desc).map (fun d => d.parameters.length) = some 1 := by decide +kernel
theorem pdX7_now : yX7_now.cls ≠ "java/lang/invoke/MethodHandle" ∧ yX7_now.cls ≠ "java/lang/invoke/VarHandle" ∧ (parseMethodDescriptor yX7_now.desc).map (fun d => d.parameters.length) = some 1 := by decide +kernel
theorem pdX7_ahead : yX7_ahead.cls ≠ "java/lang/invoke/MethodHandle" ∧ yX7_ahead.cls ≠ "java/lang/invoke/VarHandle" ∧ (parseMethodDescriptor yX7_ahead.desc).map (fun d => d.parameters.length) = some 1 := by decide +kernel
theorem pdX7_ever : yX7_ever.cls ≠ "java/lang/invoke/MethodHandle" ∧ yX7_ever.cls ≠ "java/lang/invoke/VarHandle" ∧ (parseMethodDescriptor yX7_ever.desc).map (fun d => d.parameters.length) = some 0 := by decide +kernel
theorem pdX7_turns : yX7_turns.cls ≠ "java/lang/invoke/MethodHandle" ∧ yX7_turns.cls ≠ "java/lang/invoke/VarHandle" ∧ (parseMethodDescriptor yX7_turns.desc).map (fun d => d.parameters.length) = some 1 := by decide +kernel
theorem pdX7_share : yX7_share.cls ≠ "java/lang/invoke/MethodHandle" ∧ yX7_share.cls ≠ "java/lang/invoke/VarHandle" ∧ (parseMethodDescriptor yX7_share.desc).map (fun d => d.parameters.length) = some 2 := by decide +kernel
theorem pdX7_has : yX7_has.cls ≠ "java/lang/invoke/MethodHandle" ∧ yX7_has.cls ≠ "java/lang/invoke/VarHandle" ∧ (parseMethodDescriptor yX7_has.desc).map (fun d => d.parameters.length) = some 2 := by decide +kernel
theorem pdX7_but : yX7_but.cls ≠ "java/lang/invoke/MethodHandle" ∧ yX7_but.cls ≠ "java/lang/invoke/VarHandle" ∧ (parseMethodDescriptor yX7_but.desc).map (fun d => d.parameters.length) = some 3 := by decide +kernel
theorem pdX7_vote : yX7_vote.cls ≠ "java/lang/invoke/MethodHandle" ∧ yX7_vote.cls ≠ "java/lang/invoke/VarHandle" ∧ (parseMethodDescriptor yX7_vote.desc).map (fun d => d.parameters.length) = some 0 := by decide +kernel
theorem pdX7_kept : yX7_kept.cls ≠ "java/lang/invoke/MethodHandle" ∧ yX7_kept.cls ≠ "java/lang/invoke/VarHandle" ∧ (parseMethodDescriptor yX7_kept.desc).map (fun d => d.parameters.length) = some 3 := by decide +kernel
theorem pdX7_pact : yX7_pact.cls ≠ "java/lang/invoke/MethodHandle" ∧ yX7_pact.cls ≠ "java/lang/invoke/VarHandle" ∧ (parseMethodDescriptor yX7_pact.desc).map (fun d => d.parameters.length) = some 1 := by decide +kernel
theorem pdX7_odds : yX7_odds.cls ≠ "java/lang/invoke/MethodHandle" ∧ yX7_odds.cls ≠ "java/lang/invoke/VarHandle" ∧ (parseMethodDescriptor yX7_odds.desc).map (fun d => d.parameters.length) = some 2 := by decide +kernel
theorem pdX7_feed : yX7_feed.cls ≠ "java/lang/invoke/MethodHandle" ∧ yX7_feed.cls ≠ "java/lang/invoke/VarHandle" ∧ (parseMethodDescriptor yX7_feed.desc).map (fun d => d.parameters.length) = some 2 := by decide +kernel
theorem pdX7_wipe : yX7_wipe.cls ≠ "java/lang/invoke/MethodHandle" ∧ yX7_wipe.cls ≠ "java/lang/invoke/VarHandle" ∧ (parseMethodDescriptor yX7_wipe.desc).map (fun d => d.parameters.length) = some 0 := by decide +kernel
theorem pdX7_text : yX7_text.cls ≠ "java/lang/invoke/MethodHandle" ∧ yX7_text.cls ≠ "java/lang/invoke/VarHandle" ∧ (parseMethodDescriptor yX7_text.desc).map (fun d => d.parameters.length) = some 0 := by decide +kernel
theorem pdX7_gives : yX7_gives.cls ≠ "java/lang/invoke/MethodHandle" ∧ yX7_gives.cls ≠ "java/lang/invoke/VarHandle" ∧ (parseMethodDescriptor yX7_gives.desc).map (fun d => d.parameters.length) = some 2 := by decide +kernel
theorem pdX7_untell : yX7_untell.cls ≠ "java/lang/invoke/MethodHandle" ∧ yX7_untell.cls ≠ "java/lang/invoke/VarHandle" ∧ (parseMethodDescriptor yX7_untell.desc).map (fun d => d.parameters.length) = some 0 := by decide +kernel
theorem pdX7_sheet : yX7_sheet.cls ≠ "java/lang/invoke/MethodHandle" ∧ yX7_sheet.cls ≠ "java/lang/invoke/VarHandle" ∧ (parseMethodDescriptor yX7_sheet.desc).map (fun d => d.parameters.length) = some 3 := by decide +kernel
theorem pdX7_write : yX7_write.cls ≠ "java/lang/invoke/MethodHandle" ∧ yX7_write.cls ≠ "java/lang/invoke/VarHandle" ∧ (parseMethodDescriptor yX7_write.desc).map (fun d => d.parameters.length) = some 3 := by decide +kernel
theorem pdX7_copy : yX7_copy.cls ≠ "java/lang/invoke/MethodHandle" ∧ yX7_copy.cls ≠ "java/lang/invoke/VarHandle" ∧ (parseMethodDescriptor yX7_copy.desc).map (fun d => d.parameters.length) = some 5 := by decide +kernel
theorem pdX7_lays : yX7_lays.cls ≠ "java/lang/invoke/MethodHandle" ∧ yX7_lays.cls ≠ "java/lang/invoke/VarHandle" ∧ (parseMethodDescriptor yX7_lays.desc).map (fun d => d.parameters.length) = some 2 := by decide +kernel
theorem pdX7_read : yX7_read.cls ≠ "java/lang/invoke/MethodHandle" ∧ yX7_read.cls ≠ "java/lang/invoke/VarHandle" ∧ (parseMethodDescriptor yX7_read.desc).map (fun d => d.parameters.length) = some 1 := by decide +kernel
theorem pdX7_image : yX7_image.cls ≠ "java/lang/invoke/MethodHandle" ∧ yX7_image.cls ≠ "java/lang/invoke/VarHandle" ∧ (parseMethodDescriptor yX7_image.desc).map (fun d => d.parameters.length) = some 0 := by decide +kernel
theorem pdX7_undo : yX7_undo.cls ≠ "java/lang/invoke/MethodHandle" ∧ yX7_undo.cls ≠ "java/lang/invoke/VarHandle" ∧ (parseMethodDescriptor yX7_undo.desc).map (fun d => d.parameters.length) = some 0 := by decide +kernel
theorem pdX7_tear : yX7_tear.cls ≠ "java/lang/invoke/MethodHandle" ∧ yX7_tear.cls ≠ "java/lang/invoke/VarHandle" ∧ (parseMethodDescriptor yX7_tear.desc).map (fun d => d.parameters.length) = some 0 := by decide +kernel
theorem pdX7_count : yX7_count.cls ≠ "java/lang/invoke/MethodHandle" ∧ yX7_count.cls ≠ "java/lang/invoke/VarHandle" ∧ (parseMethodDescriptor yX7_count.desc).map (fun d => d.parameters.length) = some 1 := by decide +kernel
theorem pdX7_status : yX7_status.cls ≠ "java/lang/invoke/MethodHandle" ∧ yX7_status.cls ≠ "java/lang/invoke/VarHandle" ∧ (parseMethodDescriptor yX7_status.desc).map (fun d => d.parameters.length) = some 1 := by decide +kernel
theorem pdX7_finding : yX7_finding.cls ≠ "java/lang/invoke/MethodHandle" ∧ yX7_finding.cls ≠ "java/lang/invoke/VarHandle" ∧ (parseMethodDescriptor yX7_finding.desc).map (fun d => d.parameters.length) = some 1 := by decide +kernel
theorem pdX7_within : yX7_within.cls ≠ "java/lang/invoke/MethodHandle" ∧ yX7_within.cls ≠ "java/lang/invoke/VarHandle" ∧ (parseMethodDescriptor yX7_within.desc).map (fun d => d.parameters.length) = some 3 := by decide +kernel
theorem pdX7_isIn : yX7_isIn.cls ≠ "java/lang/invoke/MethodHandle" ∧ yX7_isIn.cls ≠ "java/lang/invoke/VarHandle" ∧ (parseMethodDescriptor yX7_isIn.desc).map (fun d => d.parameters.length) = some 2 := by decide +kernel
theorem pdX7_isSort : yX7_isSort.cls ≠ "java/lang/invoke/MethodHandle" ∧ yX7_isSort.cls ≠ "java/lang/invoke/VarHandle" ∧ (parseMethodDescriptor yX7_isSort.desc).map (fun d => d.parameters.length) = some 1 := by decide +kernel
theorem pdX7_isChairs : yX7_isChairs.cls ≠ "java/lang/invoke/MethodHandle" ∧ yX7_isChairs.cls ≠ "java/lang/invoke/VarHandle" ∧ (parseMethodDescriptor yX7_isChairs.desc).map (fun d => d.parameters.length) = some 1 := by decide +kernel
theorem pdX7_isSheet : yX7_isSheet.cls ≠ "java/lang/invoke/MethodHandle" ∧ yX7_isSheet.cls ≠ "java/lang/invoke/VarHandle" ∧ (parseMethodDescriptor yX7_isSheet.desc).map (fun d => d.parameters.length) = some 1 := by decide +kernel
theorem pdX7_isOne : yX7_isOne.cls ≠ "java/lang/invoke/MethodHandle" ∧ yX7_isOne.cls ≠ "java/lang/invoke/VarHandle" ∧ (parseMethodDescriptor yX7_isOne.desc).map (fun d => d.parameters.length) = some 1 := by decide +kernel
theorem pdX7_areTwo : yX7_areTwo.cls ≠ "java/lang/invoke/MethodHandle" ∧ yX7_areTwo.cls ≠ "java/lang/invoke/VarHandle" ∧ (parseMethodDescriptor yX7_areTwo.desc).map (fun d => d.parameters.length) = some 2 := by decide +kernel
theorem pdX7_isPlace : yX7_isPlace.cls ≠ "java/lang/invoke/MethodHandle" ∧ yX7_isPlace.cls ≠ "java/lang/invoke/VarHandle" ∧ (parseMethodDescriptor yX7_isPlace.desc).map (fun d => d.parameters.length) = some 1 := by decide +kernel
theorem pdX7_mayStandInLine : yX7_mayStandInLine.cls ≠ "java/lang/invoke/MethodHandle" ∧ yX7_mayStandInLine.cls ≠ "java/lang/invoke/VarHandle" ∧ (parseMethodDescriptor yX7_mayStandInLine.desc).map (fun d => d.parameters.length) = some 1 := by decide +kernel
theorem pdX7_isTrait : yX7_isTrait.cls ≠ "java/lang/invoke/MethodHandle" ∧ yX7_isTrait.cls ≠ "java/lang/invoke/VarHandle" ∧ (parseMethodDescriptor yX7_isTrait.desc).map (fun d => d.parameters.length) = some 2 := by decide +kernel
theorem pdX7_isUnder : yX7_isUnder.cls ≠ "java/lang/invoke/MethodHandle" ∧ yX7_isUnder.cls ≠ "java/lang/invoke/VarHandle" ∧ (parseMethodDescriptor yX7_isUnder.desc).map (fun d => d.parameters.length) = some 2 := by decide +kernel
theorem pdX8_init : yX8_init.cls ≠ "java/lang/invoke/MethodHandle" ∧ yX8_init.cls ≠ "java/lang/invoke/VarHandle" ∧ (parseMethodDescriptor yX8_init.desc).map (fun d => d.parameters.length) = some 0 := by decide +kernel
theorem pdX8_isIn : yX8_isIn.cls ≠ "java/lang/invoke/MethodHandle" ∧ yX8_isIn.cls ≠ "java/lang/invoke/VarHandle" ∧ (parseMethodDescriptor yX8_isIn.desc).map (fun d => d.parameters.length) = some 3 := by decide +kernel
theorem pdX8_finds : yX8_finds.cls ≠ "java/lang/invoke/MethodHandle" ∧ yX8_finds.cls ≠ "java/lang/invoke/VarHandle" ∧ (parseMethodDescriptor yX8_finds.desc).map (fun d => d.parameters.length) = some 1 := by decide +kernel
theorem pdX8_becomes : yX8_becomes.cls ≠ "java/lang/invoke/MethodHandle" ∧ yX8_becomes.cls ≠ "java/lang/invoke/VarHandle" ∧ (parseMethodDescriptor yX8_becomes.desc).map (fun d => d.parameters.length) = some 2 := by decide +kernel
theorem pdX8_has0 : yX8_has0.cls ≠ "java/lang/invoke/MethodHandle" ∧ yX8_has0.cls ≠ "java/lang/invoke/VarHandle" ∧ (parseMethodDescriptor yX8_has0.desc).map (fun d => d.parameters.length) = some 2 := by decide +kernel
theorem pdX8_isPerson : yX8_isPerson.cls ≠ "java/lang/invoke/MethodHandle" ∧ yX8_isPerson.cls ≠ "java/lang/invoke/VarHandle" ∧ (parseMethodDescriptor yX8_isPerson.desc).map (fun d => d.parameters.length) = some 1 := by decide +kernel
theorem pdX8_isAlive : yX8_isAlive.cls ≠ "java/lang/invoke/MethodHandle" ∧ yX8_isAlive.cls ≠ "java/lang/invoke/VarHandle" ∧ (parseMethodDescriptor yX8_isAlive.desc).map (fun d => d.parameters.length) = some 1 := by decide +kernel
theorem pdX8_likesOf : yX8_likesOf.cls ≠ "java/lang/invoke/MethodHandle" ∧ yX8_likesOf.cls ≠ "java/lang/invoke/VarHandle" ∧ (parseMethodDescriptor yX8_likesOf.desc).map (fun d => d.parameters.length) = some 2 := by decide +kernel
theorem pdX8_worthOf : yX8_worthOf.cls ≠ "java/lang/invoke/MethodHandle" ∧ yX8_worthOf.cls ≠ "java/lang/invoke/VarHandle" ∧ (parseMethodDescriptor yX8_worthOf.desc).map (fun d => d.parameters.length) = some 2 := by decide +kernel
theorem pdX8_person : yX8_person.cls ≠ "java/lang/invoke/MethodHandle" ∧ yX8_person.cls ≠ "java/lang/invoke/VarHandle" ∧ (parseMethodDescriptor yX8_person.desc).map (fun d => d.parameters.length) = some 3 := by decide +kernel
theorem pdX8_placeOf : yX8_placeOf.cls ≠ "java/lang/invoke/MethodHandle" ∧ yX8_placeOf.cls ≠ "java/lang/invoke/VarHandle" ∧ (parseMethodDescriptor yX8_placeOf.desc).map (fun d => d.parameters.length) = some 1 := by decide +kernel
theorem pdX8_firstNamed : yX8_firstNamed.cls ≠ "java/lang/invoke/MethodHandle" ∧ yX8_firstNamed.cls ≠ "java/lang/invoke/VarHandle" ∧ (parseMethodDescriptor yX8_firstNamed.desc).map (fun d => d.parameters.length) = some 0 := by decide +kernel
theorem pdX8_mayName : yX8_mayName.cls ≠ "java/lang/invoke/MethodHandle" ∧ yX8_mayName.cls ≠ "java/lang/invoke/VarHandle" ∧ (parseMethodDescriptor yX8_mayName.desc).map (fun d => d.parameters.length) = some 2 := by decide +kernel
theorem pdX8_bestBy : yX8_bestBy.cls ≠ "java/lang/invoke/MethodHandle" ∧ yX8_bestBy.cls ≠ "java/lang/invoke/VarHandle" ∧ (parseMethodDescriptor yX8_bestBy.desc).map (fun d => d.parameters.length) = some 2 := by decide +kernel
theorem pdX8_valueBy : yX8_valueBy.cls ≠ "java/lang/invoke/MethodHandle" ∧ yX8_valueBy.cls ≠ "java/lang/invoke/VarHandle" ∧ (parseMethodDescriptor yX8_valueBy.desc).map (fun d => d.parameters.length) = some 3 := by decide +kernel
theorem pdX8_would : yX8_would.cls ≠ "java/lang/invoke/MethodHandle" ∧ yX8_would.cls ≠ "java/lang/invoke/VarHandle" ∧ (parseMethodDescriptor yX8_would.desc).map (fun d => d.parameters.length) = some 1 := by decide +kernel
theorem pdX8_of : yX8_of.cls ≠ "java/lang/invoke/MethodHandle" ∧ yX8_of.cls ≠ "java/lang/invoke/VarHandle" ∧ (parseMethodDescriptor yX8_of.desc).map (fun d => d.parameters.length) = some 2 := by decide +kernel
theorem pdX8_isFit : yX8_isFit.cls ≠ "java/lang/invoke/MethodHandle" ∧ yX8_isFit.cls ≠ "java/lang/invoke/VarHandle" ∧ (parseMethodDescriptor yX8_isFit.desc).map (fun d => d.parameters.length) = some 2 := by decide +kernel
theorem pdX8_set : yX8_set.cls ≠ "java/lang/invoke/MethodHandle" ∧ yX8_set.cls ≠ "java/lang/invoke/VarHandle" ∧ (parseMethodDescriptor yX8_set.desc).map (fun d => d.parameters.length) = some 3 := by decide +kernel
theorem pdX8_as : yX8_as.cls ≠ "java/lang/invoke/MethodHandle" ∧ yX8_as.cls ≠ "java/lang/invoke/VarHandle" ∧ (parseMethodDescriptor yX8_as.desc).map (fun d => d.parameters.length) = some 2 := by decide +kernel
theorem pdX8_likes : yX8_likes.cls ≠ "java/lang/invoke/MethodHandle" ∧ yX8_likes.cls ≠ "java/lang/invoke/VarHandle" ∧ (parseMethodDescriptor yX8_likes.desc).map (fun d => d.parameters.length) = some 3 := by decide +kernel
theorem pdX8_worth : yX8_worth.cls ≠ "java/lang/invoke/MethodHandle" ∧ yX8_worth.cls ≠ "java/lang/invoke/VarHandle" ∧ (parseMethodDescriptor yX8_worth.desc).map (fun d => d.parameters.length) = some 3 := by decide +kernel
theorem pdX8_isRule : yX8_isRule.cls ≠ "java/lang/invoke/MethodHandle" ∧ yX8_isRule.cls ≠ "java/lang/invoke/VarHandle" ∧ (parseMethodDescriptor yX8_isRule.desc).map (fun d => d.parameters.length) = some 2 := by decide +kernel
theorem pdX8_cutsLine : yX8_cutsLine.cls ≠ "java/lang/invoke/MethodHandle" ∧ yX8_cutsLine.cls ≠ "java/lang/invoke/VarHandle" ∧ (parseMethodDescriptor yX8_cutsLine.desc).map (fun d => d.parameters.length) = some 0 := by decide +kernel
theorem pdX8_rule : yX8_rule.cls ≠ "java/lang/invoke/MethodHandle" ∧ yX8_rule.cls ≠ "java/lang/invoke/VarHandle" ∧ (parseMethodDescriptor yX8_rule.desc).map (fun d => d.parameters.length) = some 2 := by decide +kernel
theorem pdX8_sit : yX8_sit.cls ≠ "java/lang/invoke/MethodHandle" ∧ yX8_sit.cls ≠ "java/lang/invoke/VarHandle" ∧ (parseMethodDescriptor yX8_sit.desc).map (fun d => d.parameters.length) = some 1 := by decide +kernel
theorem pdX8_line : yX8_line.cls ≠ "java/lang/invoke/MethodHandle" ∧ yX8_line.cls ≠ "java/lang/invoke/VarHandle" ∧ (parseMethodDescriptor yX8_line.desc).map (fun d => d.parameters.length) = some 2 := by decide +kernel
theorem pdX8_may : yX8_may.cls ≠ "java/lang/invoke/MethodHandle" ∧ yX8_may.cls ≠ "java/lang/invoke/VarHandle" ∧ (parseMethodDescriptor yX8_may.desc).map (fun d => d.parameters.length) = some 1 := by decide +kernel
theorem pdX8_comes : yX8_comes.cls ≠ "java/lang/invoke/MethodHandle" ∧ yX8_comes.cls ≠ "java/lang/invoke/VarHandle" ∧ (parseMethodDescriptor yX8_comes.desc).map (fun d => d.parameters.length) = some 0 := by decide +kernel
theorem pdX8_come : yX8_come.cls ≠ "java/lang/invoke/MethodHandle" ∧ yX8_come.cls ≠ "java/lang/invoke/VarHandle" ∧ (parseMethodDescriptor yX8_come.desc).map (fun d => d.parameters.length) = some 0 := by decide +kernel
theorem pdX8_followsBy : yX8_followsBy.cls ≠ "java/lang/invoke/MethodHandle" ∧ yX8_followsBy.cls ≠ "java/lang/invoke/VarHandle" ∧ (parseMethodDescriptor yX8_followsBy.desc).map (fun d => d.parameters.length) = some 2 := by decide +kernel
theorem pdX8_follows : yX8_follows.cls ≠ "java/lang/invoke/MethodHandle" ∧ yX8_follows.cls ≠ "java/lang/invoke/VarHandle" ∧ (parseMethodDescriptor yX8_follows.desc).map (fun d => d.parameters.length) = some 2 := by decide +kernel
theorem pdX8_year : yX8_year.cls ≠ "java/lang/invoke/MethodHandle" ∧ yX8_year.cls ≠ "java/lang/invoke/VarHandle" ∧ (parseMethodDescriptor yX8_year.desc).map (fun d => d.parameters.length) = some 0 := by decide +kernel
theorem pdX8_dies : yX8_dies.cls ≠ "java/lang/invoke/MethodHandle" ∧ yX8_dies.cls ≠ "java/lang/invoke/VarHandle" ∧ (parseMethodDescriptor yX8_dies.desc).map (fun d => d.parameters.length) = some 1 := by decide +kernel
theorem pdX8_years : yX8_years.cls ≠ "java/lang/invoke/MethodHandle" ∧ yX8_years.cls ≠ "java/lang/invoke/VarHandle" ∧ (parseMethodDescriptor yX8_years.desc).map (fun d => d.parameters.length) = some 1 := by decide +kernel
theorem pdX8_seed : yX8_seed.cls ≠ "java/lang/invoke/MethodHandle" ∧ yX8_seed.cls ≠ "java/lang/invoke/VarHandle" ∧ (parseMethodDescriptor yX8_seed.desc).map (fun d => d.parameters.length) = some 1 := by decide +kernel
theorem pdX8_now : yX8_now.cls ≠ "java/lang/invoke/MethodHandle" ∧ yX8_now.cls ≠ "java/lang/invoke/VarHandle" ∧ (parseMethodDescriptor yX8_now.desc).map (fun d => d.parameters.length) = some 1 := by decide +kernel
theorem pdX8_laysBy : yX8_laysBy.cls ≠ "java/lang/invoke/MethodHandle" ∧ yX8_laysBy.cls ≠ "java/lang/invoke/VarHandle" ∧ (parseMethodDescriptor yX8_laysBy.desc).map (fun d => d.parameters.length) = some 0 := by decide +kernel
theorem pdX8_laysBack : yX8_laysBack.cls ≠ "java/lang/invoke/MethodHandle" ∧ yX8_laysBack.cls ≠ "java/lang/invoke/VarHandle" ∧ (parseMethodDescriptor yX8_laysBack.desc).map (fun d => d.parameters.length) = some 0 := by decide +kernel
theorem pdX8_isChairs : yX8_isChairs.cls ≠ "java/lang/invoke/MethodHandle" ∧ yX8_isChairs.cls ≠ "java/lang/invoke/VarHandle" ∧ (parseMethodDescriptor yX8_isChairs.desc).map (fun d => d.parameters.length) = some 1 := by decide +kernel
theorem pdX8_ahead : yX8_ahead.cls ≠ "java/lang/invoke/MethodHandle" ∧ yX8_ahead.cls ≠ "java/lang/invoke/VarHandle" ∧ (parseMethodDescriptor yX8_ahead.desc).map (fun d => d.parameters.length) = some 1 := by decide +kernel
theorem pdX8_asOne : yX8_asOne.cls ≠ "java/lang/invoke/MethodHandle" ∧ yX8_asOne.cls ≠ "java/lang/invoke/VarHandle" ∧ (parseMethodDescriptor yX8_asOne.desc).map (fun d => d.parameters.length) = some 0 := by decide +kernel
theorem pdX8_findEver : yX8_findEver.cls ≠ "java/lang/invoke/MethodHandle" ∧ yX8_findEver.cls ≠ "java/lang/invoke/VarHandle" ∧ (parseMethodDescriptor yX8_findEver.desc).map (fun d => d.parameters.length) = some 0 := by decide +kernel
theorem pdX8_ever : yX8_ever.cls ≠ "java/lang/invoke/MethodHandle" ∧ yX8_ever.cls ≠ "java/lang/invoke/VarHandle" ∧ (parseMethodDescriptor yX8_ever.desc).map (fun d => d.parameters.length) = some 0 := by decide +kernel
theorem pdX8_turns : yX8_turns.cls ≠ "java/lang/invoke/MethodHandle" ∧ yX8_turns.cls ≠ "java/lang/invoke/VarHandle" ∧ (parseMethodDescriptor yX8_turns.desc).map (fun d => d.parameters.length) = some 1 := by decide +kernel
theorem pdX8_share : yX8_share.cls ≠ "java/lang/invoke/MethodHandle" ∧ yX8_share.cls ≠ "java/lang/invoke/VarHandle" ∧ (parseMethodDescriptor yX8_share.desc).map (fun d => d.parameters.length) = some 2 := by decide +kernel
theorem pdX8_hasIn : yX8_hasIn.cls ≠ "java/lang/invoke/MethodHandle" ∧ yX8_hasIn.cls ≠ "java/lang/invoke/VarHandle" ∧ (parseMethodDescriptor yX8_hasIn.desc).map (fun d => d.parameters.length) = some 2 := by decide +kernel
theorem pdX8_has : yX8_has.cls ≠ "java/lang/invoke/MethodHandle" ∧ yX8_has.cls ≠ "java/lang/invoke/VarHandle" ∧ (parseMethodDescriptor yX8_has.desc).map (fun d => d.parameters.length) = some 2 := by decide +kernel
theorem pdX8_but : yX8_but.cls ≠ "java/lang/invoke/MethodHandle" ∧ yX8_but.cls ≠ "java/lang/invoke/VarHandle" ∧ (parseMethodDescriptor yX8_but.desc).map (fun d => d.parameters.length) = some 3 := by decide +kernel
theorem pdX8_vote : yX8_vote.cls ≠ "java/lang/invoke/MethodHandle" ∧ yX8_vote.cls ≠ "java/lang/invoke/VarHandle" ∧ (parseMethodDescriptor yX8_vote.desc).map (fun d => d.parameters.length) = some 0 := by decide +kernel
theorem pdX8_keptBy : yX8_keptBy.cls ≠ "java/lang/invoke/MethodHandle" ∧ yX8_keptBy.cls ≠ "java/lang/invoke/VarHandle" ∧ (parseMethodDescriptor yX8_keptBy.desc).map (fun d => d.parameters.length) = some 3 := by decide +kernel
theorem pdX8_kept : yX8_kept.cls ≠ "java/lang/invoke/MethodHandle" ∧ yX8_kept.cls ≠ "java/lang/invoke/VarHandle" ∧ (parseMethodDescriptor yX8_kept.desc).map (fun d => d.parameters.length) = some 3 := by decide +kernel
theorem pdX8_pact : yX8_pact.cls ≠ "java/lang/invoke/MethodHandle" ∧ yX8_pact.cls ≠ "java/lang/invoke/VarHandle" ∧ (parseMethodDescriptor yX8_pact.desc).map (fun d => d.parameters.length) = some 1 := by decide +kernel
theorem pdX8_odds : yX8_odds.cls ≠ "java/lang/invoke/MethodHandle" ∧ yX8_odds.cls ≠ "java/lang/invoke/VarHandle" ∧ (parseMethodDescriptor yX8_odds.desc).map (fun d => d.parameters.length) = some 2 := by decide +kernel
theorem pdX8_feed : yX8_feed.cls ≠ "java/lang/invoke/MethodHandle" ∧ yX8_feed.cls ≠ "java/lang/invoke/VarHandle" ∧ (parseMethodDescriptor yX8_feed.desc).map (fun d => d.parameters.length) = some 2 := by decide +kernel
theorem pdX8_wipe : yX8_wipe.cls ≠ "java/lang/invoke/MethodHandle" ∧ yX8_wipe.cls ≠ "java/lang/invoke/VarHandle" ∧ (parseMethodDescriptor yX8_wipe.desc).map (fun d => d.parameters.length) = some 0 := by decide +kernel
theorem pdX8_nameOf : yX8_nameOf.cls ≠ "java/lang/invoke/MethodHandle" ∧ yX8_nameOf.cls ≠ "java/lang/invoke/VarHandle" ∧ (parseMethodDescriptor yX8_nameOf.desc).map (fun d => d.parameters.length) = some 1 := by decide +kernel
theorem pdX8_binds : yX8_binds.cls ≠ "java/lang/invoke/MethodHandle" ∧ yX8_binds.cls ≠ "java/lang/invoke/VarHandle" ∧ (parseMethodDescriptor yX8_binds.desc).map (fun d => d.parameters.length) = some 1 := by decide +kernel
theorem pdX8_puts : yX8_puts.cls ≠ "java/lang/invoke/MethodHandle" ∧ yX8_puts.cls ≠ "java/lang/invoke/VarHandle" ∧ (parseMethodDescriptor yX8_puts.desc).map (fun d => d.parameters.length) = some 1 := by decide +kernel
theorem pdX8_waits : yX8_waits.cls ≠ "java/lang/invoke/MethodHandle" ∧ yX8_waits.cls ≠ "java/lang/invoke/VarHandle" ∧ (parseMethodDescriptor yX8_waits.desc).map (fun d => d.parameters.length) = some 1 := by decide +kernel
theorem pdX8_doneAhead : yX8_doneAhead.cls ≠ "java/lang/invoke/MethodHandle" ∧ yX8_doneAhead.cls ≠ "java/lang/invoke/VarHandle" ∧ (parseMethodDescriptor yX8_doneAhead.desc).map (fun d => d.parameters.length) = some 0 := by decide +kernel
theorem pdX8_doneBy : yX8_doneBy.cls ≠ "java/lang/invoke/MethodHandle" ∧ yX8_doneBy.cls ≠ "java/lang/invoke/VarHandle" ∧ (parseMethodDescriptor yX8_doneBy.desc).map (fun d => d.parameters.length) = some 1 := by decide +kernel
theorem pdX8_isSignRead : yX8_isSignRead.cls ≠ "java/lang/invoke/MethodHandle" ∧ yX8_isSignRead.cls ≠ "java/lang/invoke/VarHandle" ∧ (parseMethodDescriptor yX8_isSignRead.desc).map (fun d => d.parameters.length) = some 1 := by decide +kernel
theorem pdX8_isOpenRead : yX8_isOpenRead.cls ≠ "java/lang/invoke/MethodHandle" ∧ yX8_isOpenRead.cls ≠ "java/lang/invoke/VarHandle" ∧ (parseMethodDescriptor yX8_isOpenRead.desc).map (fun d => d.parameters.length) = some 1 := by decide +kernel
theorem pdX8_text : yX8_text.cls ≠ "java/lang/invoke/MethodHandle" ∧ yX8_text.cls ≠ "java/lang/invoke/VarHandle" ∧ (parseMethodDescriptor yX8_text.desc).map (fun d => d.parameters.length) = some 0 := by decide +kernel
theorem pdX8_named : yX8_named.cls ≠ "java/lang/invoke/MethodHandle" ∧ yX8_named.cls ≠ "java/lang/invoke/VarHandle" ∧ (parseMethodDescriptor yX8_named.desc).map (fun d => d.parameters.length) = some 3 := by decide +kernel
theorem pdX8_worked : yX8_worked.cls ≠ "java/lang/invoke/MethodHandle" ∧ yX8_worked.cls ≠ "java/lang/invoke/VarHandle" ∧ (parseMethodDescriptor yX8_worked.desc).map (fun d => d.parameters.length) = some 3 := by decide +kernel
theorem pdX8_givenBy : yX8_givenBy.cls ≠ "java/lang/invoke/MethodHandle" ∧ yX8_givenBy.cls ≠ "java/lang/invoke/VarHandle" ∧ (parseMethodDescriptor yX8_givenBy.desc).map (fun d => d.parameters.length) = some 2 := by decide +kernel
theorem pdX8_gives : yX8_gives.cls ≠ "java/lang/invoke/MethodHandle" ∧ yX8_gives.cls ≠ "java/lang/invoke/VarHandle" ∧ (parseMethodDescriptor yX8_gives.desc).map (fun d => d.parameters.length) = some 2 := by decide +kernel
theorem pdX8_untell : yX8_untell.cls ≠ "java/lang/invoke/MethodHandle" ∧ yX8_untell.cls ≠ "java/lang/invoke/VarHandle" ∧ (parseMethodDescriptor yX8_untell.desc).map (fun d => d.parameters.length) = some 0 := by decide +kernel
theorem pdX8_isSheet : yX8_isSheet.cls ≠ "java/lang/invoke/MethodHandle" ∧ yX8_isSheet.cls ≠ "java/lang/invoke/VarHandle" ∧ (parseMethodDescriptor yX8_isSheet.desc).map (fun d => d.parameters.length) = some 1 := by decide +kernel
theorem pdX8_narrow : yX8_narrow.cls ≠ "java/lang/invoke/MethodHandle" ∧ yX8_narrow.cls ≠ "java/lang/invoke/VarHandle" ∧ (parseMethodDescriptor yX8_narrow.desc).map (fun d => d.parameters.length) = some 2 := by decide +kernel
theorem pdX8_sheet : yX8_sheet.cls ≠ "java/lang/invoke/MethodHandle" ∧ yX8_sheet.cls ≠ "java/lang/invoke/VarHandle" ∧ (parseMethodDescriptor yX8_sheet.desc).map (fun d => d.parameters.length) = some 3 := by decide +kernel
theorem pdX8_write : yX8_write.cls ≠ "java/lang/invoke/MethodHandle" ∧ yX8_write.cls ≠ "java/lang/invoke/VarHandle" ∧ (parseMethodDescriptor yX8_write.desc).map (fun d => d.parameters.length) = some 3 := by decide +kernel
theorem pdX8_copy : yX8_copy.cls ≠ "java/lang/invoke/MethodHandle" ∧ yX8_copy.cls ≠ "java/lang/invoke/VarHandle" ∧ (parseMethodDescriptor yX8_copy.desc).map (fun d => d.parameters.length) = some 5 := by decide +kernel
theorem pdX8_lays : yX8_lays.cls ≠ "java/lang/invoke/MethodHandle" ∧ yX8_lays.cls ≠ "java/lang/invoke/VarHandle" ∧ (parseMethodDescriptor yX8_lays.desc).map (fun d => d.parameters.length) = some 2 := by decide +kernel
theorem pdX8_read : yX8_read.cls ≠ "java/lang/invoke/MethodHandle" ∧ yX8_read.cls ≠ "java/lang/invoke/VarHandle" ∧ (parseMethodDescriptor yX8_read.desc).map (fun d => d.parameters.length) = some 1 := by decide +kernel
theorem pdX8_image : yX8_image.cls ≠ "java/lang/invoke/MethodHandle" ∧ yX8_image.cls ≠ "java/lang/invoke/VarHandle" ∧ (parseMethodDescriptor yX8_image.desc).map (fun d => d.parameters.length) = some 0 := by decide +kernel
theorem pdX8_undo : yX8_undo.cls ≠ "java/lang/invoke/MethodHandle" ∧ yX8_undo.cls ≠ "java/lang/invoke/VarHandle" ∧ (parseMethodDescriptor yX8_undo.desc).map (fun d => d.parameters.length) = some 0 := by decide +kernel
theorem pdX8_tear : yX8_tear.cls ≠ "java/lang/invoke/MethodHandle" ∧ yX8_tear.cls ≠ "java/lang/invoke/VarHandle" ∧ (parseMethodDescriptor yX8_tear.desc).map (fun d => d.parameters.length) = some 0 := by decide +kernel
theorem pdX8_ofAll : yX8_ofAll.cls ≠ "java/lang/invoke/MethodHandle" ∧ yX8_ofAll.cls ≠ "java/lang/invoke/VarHandle" ∧ (parseMethodDescriptor yX8_ofAll.desc).map (fun d => d.parameters.length) = some 1 := by decide +kernel
theorem pdX8_namedMany : yX8_namedMany.cls ≠ "java/lang/invoke/MethodHandle" ∧ yX8_namedMany.cls ≠ "java/lang/invoke/VarHandle" ∧ (parseMethodDescriptor yX8_namedMany.desc).map (fun d => d.parameters.length) = some 0 := by decide +kernel
theorem pdX8_count : yX8_count.cls ≠ "java/lang/invoke/MethodHandle" ∧ yX8_count.cls ≠ "java/lang/invoke/VarHandle" ∧ (parseMethodDescriptor yX8_count.desc).map (fun d => d.parameters.length) = some 1 := by decide +kernel
theorem pdX8_status : yX8_status.cls ≠ "java/lang/invoke/MethodHandle" ∧ yX8_status.cls ≠ "java/lang/invoke/VarHandle" ∧ (parseMethodDescriptor yX8_status.desc).map (fun d => d.parameters.length) = some 1 := by decide +kernel
theorem pdJ11_isValidCodePoint_9a6ad : yJ11_isValidCodePoint_9a6ad.cls ≠ "java/lang/invoke/MethodHandle" ∧ yJ11_isValidCodePoint_9a6ad.cls ≠ "java/lang/invoke/VarHandle" ∧ (parseMethodDescriptor yJ11_isValidCodePoint_9a6ad.desc).map (fun d => d.parameters.length) = some 1 := by decide +kernel
theorem pdJ11_highSurrogate_5068e : yJ11_highSurrogate_5068e.cls ≠ "java/lang/invoke/MethodHandle" ∧ yJ11_highSurrogate_5068e.cls ≠ "java/lang/invoke/VarHandle" ∧ (parseMethodDescriptor yJ11_highSurrogate_5068e.desc).map (fun d => d.parameters.length) = some 1 := by decide +kernel
theorem pdJ11_lowSurrogate_5068e : yJ11_lowSurrogate_5068e.cls ≠ "java/lang/invoke/MethodHandle" ∧ yJ11_lowSurrogate_5068e.cls ≠ "java/lang/invoke/VarHandle" ∧ (parseMethodDescriptor yJ11_lowSurrogate_5068e.desc).map (fun d => d.parameters.length) = some 1 := by decide +kernel
theorem pdJ6_bitCount_0f7a4 : yJ6_bitCount_0f7a4.cls ≠ "java/lang/invoke/MethodHandle" ∧ yJ6_bitCount_0f7a4.cls ≠ "java/lang/invoke/VarHandle" ∧ (parseMethodDescriptor yJ6_bitCount_0f7a4.desc).map (fun d => d.parameters.length) = some 1 := by decide +kernel
theorem pdJ9_max_7cf53 : yJ9_max_7cf53.cls ≠ "java/lang/invoke/MethodHandle" ∧ yJ9_max_7cf53.cls ≠ "java/lang/invoke/VarHandle" ∧ (parseMethodDescriptor yJ9_max_7cf53.desc).map (fun d => d.parameters.length) = some 2 := by decide +kernel
theorem pdJ9_min_7cf53 : yJ9_min_7cf53.cls ≠ "java/lang/invoke/MethodHandle" ∧ yJ9_min_7cf53.cls ≠ "java/lang/invoke/VarHandle" ∧ (parseMethodDescriptor yJ9_min_7cf53.desc).map (fun d => d.parameters.length) = some 2 := by decide +kernel
theorem pdJ0_length_8abf5 : yJ0_length_8abf5.cls ≠ "java/lang/invoke/MethodHandle" ∧ yJ0_length_8abf5.cls ≠ "java/lang/invoke/VarHandle" ∧ (parseMethodDescriptor yJ0_length_8abf5.desc).map (fun d => d.parameters.length) = some 0 := by decide +kernel
theorem pdJ0_indexOf_0f7a4 : yJ0_indexOf_0f7a4.cls ≠ "java/lang/invoke/MethodHandle" ∧ yJ0_indexOf_0f7a4.cls ≠ "java/lang/invoke/VarHandle" ∧ (parseMethodDescriptor yJ0_indexOf_0f7a4.desc).map (fun d => d.parameters.length) = some 1 := by decide +kernel
theorem pdJ0_indexOf_7cf53 : yJ0_indexOf_7cf53.cls ≠ "java/lang/invoke/MethodHandle" ∧ yJ0_indexOf_7cf53.cls ≠ "java/lang/invoke/VarHandle" ∧ (parseMethodDescriptor yJ0_indexOf_7cf53.desc).map (fun d => d.parameters.length) = some 2 := by decide +kernel
theorem pdJ0_coder_7d493 : yJ0_coder_7d493.cls ≠ "java/lang/invoke/MethodHandle" ∧ yJ0_coder_7d493.cls ≠ "java/lang/invoke/VarHandle" ∧ (parseMethodDescriptor yJ0_coder_7d493.desc).map (fun d => d.parameters.length) = some 0 := by decide +kernel
theorem pdJ0_isLatin1_aae02 : yJ0_isLatin1_aae02.cls ≠ "java/lang/invoke/MethodHandle" ∧ yJ0_isLatin1_aae02.cls ≠ "java/lang/invoke/VarHandle" ∧ (parseMethodDescriptor yJ0_isLatin1_aae02.desc).map (fun d => d.parameters.length) = some 0 := by decide +kernel
theorem pdJ0_checkBoundsBeginEnd_23922 : yJ0_checkBoundsBeginEnd_23922.cls ≠ "java/lang/invoke/MethodHandle" ∧ yJ0_checkBoundsBeginEnd_23922.cls ≠ "java/lang/invoke/VarHandle" ∧ (parseMethodDescriptor yJ0_checkBoundsBeginEnd_23922.desc).map (fun d => d.parameters.length) = some 3 := by decide +kernel
theorem pdJ1_canEncode_9a6ad : yJ1_canEncode_9a6ad.cls ≠ "java/lang/invoke/MethodHandle" ∧ yJ1_canEncode_9a6ad.cls ≠ "java/lang/invoke/VarHandle" ∧ (parseMethodDescriptor yJ1_canEncode_9a6ad.desc).map (fun d => d.parameters.length) = some 1 := by decide +kernel
theorem pdJ1_indexOf_4cfef : yJ1_indexOf_4cfef.cls ≠ "java/lang/invoke/MethodHandle" ∧ yJ1_indexOf_4cfef.cls ≠ "java/lang/invoke/VarHandle" ∧ (parseMethodDescriptor yJ1_indexOf_4cfef.desc).map (fun d => d.parameters.length) = some 4 := by decide +kernel
theorem pdJ1_indexOfChar_4cfef : yJ1_indexOfChar_4cfef.cls ≠ "java/lang/invoke/MethodHandle" ∧ yJ1_indexOfChar_4cfef.cls ≠ "java/lang/invoke/VarHandle" ∧ (parseMethodDescriptor yJ1_indexOfChar_4cfef.desc).map (fun d => d.parameters.length) = some 4 := by decide +kernel
theorem pdJ2_getChar_3b067 : yJ2_getChar_3b067.cls ≠ "java/lang/invoke/MethodHandle" ∧ yJ2_getChar_3b067.cls ≠ "java/lang/invoke/VarHandle" ∧ (parseMethodDescriptor yJ2_getChar_3b067.desc).map (fun d => d.parameters.length) = some 2 := by decide +kernel
theorem pdJ2_length_9d52b : yJ2_length_9d52b.cls ≠ "java/lang/invoke/MethodHandle" ∧ yJ2_length_9d52b.cls ≠ "java/lang/invoke/VarHandle" ∧ (parseMethodDescriptor yJ2_length_9d52b.desc).map (fun d => d.parameters.length) = some 1 := by decide +kernel
theorem pdJ2_indexOf_4cfef : yJ2_indexOf_4cfef.cls ≠ "java/lang/invoke/MethodHandle" ∧ yJ2_indexOf_4cfef.cls ≠ "java/lang/invoke/VarHandle" ∧ (parseMethodDescriptor yJ2_indexOf_4cfef.desc).map (fun d => d.parameters.length) = some 4 := by decide +kernel
theorem pdJ2_indexOfChar_4cfef : yJ2_indexOfChar_4cfef.cls ≠ "java/lang/invoke/MethodHandle" ∧ yJ2_indexOfChar_4cfef.cls ≠ "java/lang/invoke/VarHandle" ∧ (parseMethodDescriptor yJ2_indexOfChar_4cfef.desc).map (fun d => d.parameters.length) = some 4 := by decide +kernel
theorem pdJ2_indexOfCharUnsafe_4cfef : yJ2_indexOfCharUnsafe_4cfef.cls ≠ "java/lang/invoke/MethodHandle" ∧ yJ2_indexOfCharUnsafe_4cfef.cls ≠ "java/lang/invoke/VarHandle" ∧ (parseMethodDescriptor yJ2_indexOfCharUnsafe_4cfef.desc).map (fun d => d.parameters.length) = some 4 := by decide +kernel
theorem pdJ2_indexOfSupplementary_4cfef : yJ2_indexOfSupplementary_4cfef.cls ≠ "java/lang/invoke/MethodHandle" ∧ yJ2_indexOfSupplementary_4cfef.cls ≠ "java/lang/invoke/VarHandle" ∧ (parseMethodDescriptor yJ2_indexOfSupplementary_4cfef.desc).map (fun d => d.parameters.length) = some 4 := by decide +kernel
theorem pdJ2_checkBoundsBeginEnd_d044e : yJ2_checkBoundsBeginEnd_d044e.cls ≠ "java/lang/invoke/MethodHandle" ∧ yJ2_checkBoundsBeginEnd_d044e.cls ≠ "java/lang/invoke/VarHandle" ∧ (parseMethodDescriptor yJ2_checkBoundsBeginEnd_d044e.desc).map (fun d => d.parameters.length) = some 3 := by decide +kernel
theorem pdJ7_rangeCheck_23922 : yJ7_rangeCheck_23922.cls ≠ "java/lang/invoke/MethodHandle" ∧ yJ7_rangeCheck_23922.cls ≠ "java/lang/invoke/VarHandle" ∧ (parseMethodDescriptor yJ7_rangeCheck_23922.desc).map (fun d => d.parameters.length) = some 3 := by decide +kernel
theorem pdJ7_fill_d0a16 : yJ7_fill_d0a16.cls ≠ "java/lang/invoke/MethodHandle" ∧ yJ7_fill_d0a16.cls ≠ "java/lang/invoke/VarHandle" ∧ (parseMethodDescriptor yJ7_fill_d0a16.desc).map (fun d => d.parameters.length) = some 2 := by decide +kernel
theorem pdJ7_fill_53178 : yJ7_fill_53178.cls ≠ "java/lang/invoke/MethodHandle" ∧ yJ7_fill_53178.cls ≠ "java/lang/invoke/VarHandle" ∧ (parseMethodDescriptor yJ7_fill_53178.desc).map (fun d => d.parameters.length) = some 2 := by decide +kernel
theorem pdJ7_fill_fda19 : yJ7_fill_fda19.cls ≠ "java/lang/invoke/MethodHandle" ∧ yJ7_fill_fda19.cls ≠ "java/lang/invoke/VarHandle" ∧ (parseMethodDescriptor yJ7_fill_fda19.desc).map (fun d => d.parameters.length) = some 4 := by decide +kernel
theorem pdJ3_checkFromToIndex_8c36e : yJ3_checkFromToIndex_8c36e.cls ≠ "java/lang/invoke/MethodHandle" ∧ yJ3_checkFromToIndex_8c36e.cls ≠ "java/lang/invoke/VarHandle" ∧ (parseMethodDescriptor yJ3_checkFromToIndex_8c36e.desc).map (fun d => d.parameters.length) = some 4 := by decide +kernel
