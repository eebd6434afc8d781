/-! ===== BEGIN words of one list among another's, by their places ===== -/
theorem goodIn_r {big : List Cond} (ws : List Cond) (ps : List Nat) (hp : ws = ps.filterMap (fun i => big[i]?)) (h : ws.all goodWord = true) : GoodIn big ws := by
  intro w hw
  have h1 := List.all_eq_true.mp h w hw
  rw [hp] at hw
  obtain ⟨i, -, hi⟩ := List.mem_filterMap.mp hw
  have hm : w ∈ big := by first | exact List.mem_of_getElem? hi | exact List.getElem?_mem hi
  exact ⟨hm, good_of_word h1⟩
theorem goodIn_app {big a b : List Cond} (ha : GoodIn big a) (hb : GoodIn big b) : GoodIn big (a ++ b) := fun w h => (List.mem_append.mp h).elim (ha w) (hb w)
theorem goodIn_ca {big a b : List Cond} {c : Cond} (ha : GoodIn big (c :: a)) (hb : GoodIn big b) : GoodIn big (c :: (a ++ b)) := fun w h => (List.mem_cons.mp h).elim (fun e => ha w (List.mem_cons.mpr (Or.inl e))) (fun h => (List.mem_append.mp h).elim (fun h => ha w (List.mem_cons.mpr (Or.inr h))) (hb w))
theorem goodIn_sub {big ws : List Cond} (hm : ∀ w ∈ ws, w ∈ big) (h : ws.all goodWord = true) : GoodIn big ws := fun w hw => ⟨hm w hw, good_of_word (List.all_eq_true.mp h w hw)⟩
/-! ===== END ===== -/

/-! ===== BEGIN printed: names, fields, word lists, decode rows ===== -/
def RX0 : String := "SharedShadow$Agreement"
def TX0 : u_T := fun k => match k with
  | 0 => ("SharedShadow$Agreement", "who", "[I", true)
  | 1 => ("SharedShadow$Agreement", "needs", "[I", true)
  | 2 => ("SharedShadow$Agreement", "held", "[I", true)
  | 3 => ("SharedShadow$Agreement", "behind", "[I", true)
  | 4 => ("SharedShadow$Agreement", "shared", "I", false)
  | _ => ("SharedShadow$Agreement", "dark", "I", false)
def tyX0 : Nat → FieldType := fun k => match k with
  | 0 => .array .int
  | 1 => .array .int
  | 2 => .array .int
  | 3 => .array .int
  | 4 => .int
  | _ => .int
abbrev wsX00 : List Cond := u_ws RX0 TX0 6
theorem nmX0 : ∀ a, a < 6 → ∀ b, b < 6 → a ≠ b → (TX0 a).2.1 ≠ (TX0 b).2.1 := by decide +kernel
theorem tyX0_ok : ∀ k, k < 6 → parseFieldDescriptor (TX0 k).2.2.1 = some (tyX0 k) := by decide +kernel
abbrev cX0_init : ByteArray := prog_2_method_1_code
def yX0_init : MethodName := ⟨RX0, "<init>", "()V"⟩
abbrev cX0_make : ByteArray := prog_2_method_2_code
def yX0_make : MethodName := ⟨RX0, "make", "(LSharedShadow$Land;II)V"⟩
abbrev cX0_weighBehind : ByteArray := prog_2_method_3_code
def yX0_weighBehind : MethodName := ⟨RX0, "weighBehind", "()V"⟩
abbrev cX0_worthOf : ByteArray := prog_2_method_4_code
def yX0_worthOf : MethodName := ⟨RX0, "worthOf", "(II)I"⟩
abbrev cX0_choose : ByteArray := prog_2_method_5_code
def yX0_choose : MethodName := ⟨RX0, "choose", "()V"⟩
abbrev cX0_holderAt : ByteArray := prog_2_method_6_code
def yX0_holderAt : MethodName := ⟨RX0, "holderAt", "(I)I"⟩
abbrev cX0_metOfSide : ByteArray := prog_2_method_7_code
def yX0_metOfSide : MethodName := ⟨RX0, "metOfSide", "(I)I"⟩
abbrev cX0_metOfBoth : ByteArray := prog_2_method_8_code
def yX0_metOfBoth : MethodName := ⟨RX0, "metOfBoth", "()I"⟩
abbrev cX0_countChanges : ByteArray := prog_2_method_9_code
def yX0_countChanges : MethodName := ⟨RX0, "countChanges", "()I"⟩
def RX1 : String := "SharedShadow$Land"
def TX1 : u_T := fun k => match k with
  | 0 => ("SharedShadow$Land", "kind", "[I", true)
  | 1 => ("SharedShadow$Land", "sun", "[I", true)
  | 2 => ("SharedShadow$Land", "strength", "[I", true)
  | 3 => ("SharedShadow$Land", "needs", "[I", true)
  | 4 => ("SharedShadow$Land", "partner", "[I", true)
  | 5 => ("SharedShadow$Land", "spots", "[I", true)
  | 6 => ("SharedShadow$Land", "people", "I", false)
  | 7 => ("SharedShadow$Land", "lit", "I", false)
  | 8 => ("SharedShadow$Land", "hour", "I", false)
  | 9 => ("SharedShadow$Land", "wereMet", "I", false)
  | 10 => ("SharedShadow$Land", "wereMissed", "I", false)
  | _ => ("SharedShadow$Land", "drawn", "I", false)
def tyX1 : Nat → FieldType := fun k => match k with
  | 0 => .array .int
  | 1 => .array .int
  | 2 => .array .int
  | 3 => .array .int
  | 4 => .array .int
  | 5 => .array .int
  | 6 => .int
  | 7 => .int
  | 8 => .int
  | 9 => .int
  | 10 => .int
  | _ => .int
abbrev wsX10 : List Cond := u_ws RX1 TX1 12
theorem nmX1 : ∀ a, a < 12 → ∀ b, b < 12 → a ≠ b → (TX1 a).2.1 ≠ (TX1 b).2.1 := by decide +kernel
theorem tyX1_ok : ∀ k, k < 12 → parseFieldDescriptor (TX1 k).2.2.1 = some (tyX1 k) := by decide +kernel
abbrev cX1_init : ByteArray := prog_3_method_1_code
def yX1_init : MethodName := ⟨RX1, "<init>", "()V"⟩
abbrev cX1_become : ByteArray := prog_3_method_2_code
def yX1_become : MethodName := ⟨RX1, "become", "(LSharedShadow$Land;)V"⟩
abbrev cX1_isFull : ByteArray := prog_3_method_3_code
def yX1_isFull : MethodName := ⟨RX1, "isFull", "()Z"⟩
abbrev cX1_isPerson : ByteArray := prog_3_method_4_code
def yX1_isPerson : MethodName := ⟨RX1, "isPerson", "(I)Z"⟩
abbrev cX1_areTwo : ByteArray := prog_3_method_5_code
def yX1_areTwo : MethodName := ⟨RX1, "areTwo", "(II)Z"⟩
abbrev cX1_everybody : ByteArray := prog_3_method_6_code
def yX1_everybody : MethodName := ⟨RX1, "everybody", "()I"⟩
abbrev cX1_hoursLeft : ByteArray := prog_3_method_7_code
def yX1_hoursLeft : MethodName := ⟨RX1, "hoursLeft", "()I"⟩
abbrev cX1_add : ByteArray := prog_3_method_8_code
def yX1_add : MethodName := ⟨RX1, "add", "(I)I"⟩
abbrev cX1_join : ByteArray := prog_3_method_9_code
def yX1_join : MethodName := ⟨RX1, "join", "(II)V"⟩
abbrev cX1_separate : ByteArray := prog_3_method_10_code
def yX1_separate : MethodName := ⟨RX1, "separate", "(I)V"⟩
abbrev cX1_isOfKind : ByteArray := prog_3_method_11_code
def yX1_isOfKind : MethodName := ⟨RX1, "isOfKind", "(II)Z"⟩
abbrev cX1_claimOf : ByteArray := prog_3_method_12_code
def yX1_claimOf : MethodName := ⟨RX1, "claimOf", "(II)I"⟩
abbrev cX1_stronger : ByteArray := prog_3_method_13_code
def yX1_stronger : MethodName := ⟨RX1, "stronger", "(III)I"⟩
abbrev cX1_havers : ByteArray := prog_3_method_14_code
def yX1_havers : MethodName := ⟨RX1, "havers", "()I"⟩
abbrev cX1_passHours : ByteArray := prog_3_method_15_code
def yX1_passHours : MethodName := ⟨RX1, "passHours", "(I)V"⟩
abbrev cX1_passHour : ByteArray := prog_3_method_16_code
def yX1_passHour : MethodName := ⟨RX1, "passHour", "(I)V"⟩
abbrev cX1_tally : ByteArray := prog_3_method_17_code
def yX1_tally : MethodName := ⟨RX1, "tally", "(Z)V"⟩
abbrev cX1_draw : ByteArray := prog_3_method_18_code
def yX1_draw : MethodName := ⟨RX1, "draw", "()I"⟩
abbrev cX1_countMated : ByteArray := prog_3_method_19_code
def yX1_countMated : MethodName := ⟨RX1, "countMated", "()I"⟩
abbrev cX1_sunOfAll : ByteArray := prog_3_method_20_code
def yX1_sunOfAll : MethodName := ⟨RX1, "sunOfAll", "()I"⟩
abbrev cX1_countHeld : ByteArray := prog_3_method_21_code
def yX1_countHeld : MethodName := ⟨RX1, "countHeld", "()I"⟩
def RX2 : String := "SharedShadow$Pairings"
def TX2 : u_T := fun k => match k with
  | 0 => ("SharedShadow$Pairings", "values", "[I", true)
  | 1 => ("SharedShadow$Pairings", "best", "[I", true)
  | _ => ("SharedShadow$Pairings", "number", "[I", true)
def tyX2 : Nat → FieldType := fun k => match k with
  | 0 => .array .int
  | 1 => .array .int
  | _ => .array .int
abbrev wsX20 : List Cond := u_ws RX2 TX2 3
theorem nmX2 : ∀ a, a < 3 → ∀ b, b < 3 → a ≠ b → (TX2 a).2.1 ≠ (TX2 b).2.1 := by decide +kernel
theorem tyX2_ok : ∀ k, k < 3 → parseFieldDescriptor (TX2 k).2.2.1 = some (tyX2 k) := by decide +kernel
abbrev cX2_init : ByteArray := prog_4_method_1_code
def yX2_init : MethodName := ⟨RX2, "<init>", "()V"⟩
abbrev cX2_value : ByteArray := prog_4_method_2_code
def yX2_value : MethodName := ⟨RX2, "value", "(III)V"⟩
abbrev cX2_valueOf : ByteArray := prog_4_method_3_code
def yX2_valueOf : MethodName := ⟨RX2, "valueOf", "(II)I"⟩
abbrev cX2_weigh : ByteArray := prog_4_method_4_code
def yX2_weigh : MethodName := ⟨RX2, "weigh", "(I)V"⟩
abbrev cX2_weighSet : ByteArray := prog_4_method_5_code
def yX2_weighSet : MethodName := ⟨RX2, "weighSet", "(I)V"⟩
abbrev cX2_worthWith : ByteArray := prog_4_method_6_code
def yX2_worthWith : MethodName := ⟨RX2, "worthWith", "(III)I"⟩
abbrev cX2_without : ByteArray := prog_4_method_7_code
def yX2_without : MethodName := ⟨RX2, "without", "(III)I"⟩
abbrev cX2_leastOf : ByteArray := prog_4_method_8_code
def yX2_leastOf : MethodName := ⟨RX2, "leastOf", "(I)I"⟩
abbrev cX2_bestOf : ByteArray := prog_4_method_9_code
def yX2_bestOf : MethodName := ⟨RX2, "bestOf", "(I)I"⟩
abbrev cX2_waysOf : ByteArray := prog_4_method_10_code
def yX2_waysOf : MethodName := ⟨RX2, "waysOf", "(I)I"⟩
abbrev cX2_firstMateOf : ByteArray := prog_4_method_11_code
def yX2_firstMateOf : MethodName := ⟨RX2, "firstMateOf", "(II)I"⟩
abbrev cX2_firstBest : ByteArray := prog_4_method_12_code
def yX2_firstBest : MethodName := ⟨RX2, "firstBest", "(II)I"⟩
abbrev cX2_matesOf : ByteArray := prog_4_method_13_code
def yX2_matesOf : MethodName := ⟨RX2, "matesOf", "(II)I"⟩
def RX3 : String := "SharedShadow$Reader"
def TX3 : u_T := fun k => match k with
  | 0 => ("SharedShadow$Reader", "tape", "LSharedShadow$Tape;", true)
  | 1 => ("SharedShadow$Reader", "draft", "LSharedShadow$Land;", true)
  | 2 => ("SharedShadow$Reader", "types", "[I", true)
  | 3 => ("SharedShadow$Reader", "places", "[I", true)
  | 4 => ("SharedShadow$Reader", "ends", "[I", true)
  | 5 => ("SharedShadow$Reader", "values", "[I", true)
  | 6 => ("SharedShadow$Reader", "tokens", "I", false)
  | _ => ("SharedShadow$Reader", "next", "I", false)
def tyX3 : Nat → FieldType := fun k => match k with
  | 0 => .object "SharedShadow$Tape"
  | 1 => .object "SharedShadow$Land"
  | 2 => .array .int
  | 3 => .array .int
  | 4 => .array .int
  | 5 => .array .int
  | 6 => .int
  | _ => .int
abbrev wsX30 : List Cond := u_ws RX3 TX3 8
theorem nmX3 : ∀ a, a < 8 → ∀ b, b < 8 → a ≠ b → (TX3 a).2.1 ≠ (TX3 b).2.1 := by decide +kernel
theorem tyX3_ok : ∀ k, k < 8 → parseFieldDescriptor (TX3 k).2.2.1 = some (tyX3 k) := by decide +kernel
abbrev cX3_init : ByteArray := prog_5_method_1_code
def yX3_init : MethodName := ⟨RX3, "<init>", "()V"⟩
abbrev cX3_read : ByteArray := prog_5_method_2_code
def yX3_read : MethodName := ⟨RX3, "read", "(LSharedShadow$Land;)I"⟩
abbrev cX3_split : ByteArray := prog_5_method_3_code
def yX3_split : MethodName := ⟨RX3, "split", "()V"⟩
abbrev cX3_beginToken : ByteArray := prog_5_method_4_code
def yX3_beginToken : MethodName := ⟨RX3, "beginToken", "(II)V"⟩
abbrev cX3_lengthenToken : ByteArray := prog_5_method_5_code
def yX3_lengthenToken : MethodName := ⟨RX3, "lengthenToken", "(I)V"⟩
abbrev cX3_typeOf : ByteArray := prog_5_method_6_code
def yX3_typeOf : MethodName := ⟨RX3, "typeOf", "(I)I"⟩
abbrev cX3_readItem : ByteArray := prog_5_method_7_code
def yX3_readItem : MethodName := ⟨RX3, "readItem", "()Z"⟩
abbrev cX3_readLight : ByteArray := prog_5_method_8_code
def yX3_readLight : MethodName := ⟨RX3, "readLight", "()Z"⟩
abbrev cX3_readHour : ByteArray := prog_5_method_9_code
def yX3_readHour : MethodName := ⟨RX3, "readHour", "()Z"⟩
abbrev cX3_readPerson : ByteArray := prog_5_method_10_code
def yX3_readPerson : MethodName := ⟨RX3, "readPerson", "()Z"⟩
abbrev cX3_readTrait : ByteArray := prog_5_method_11_code
def yX3_readTrait : MethodName := ⟨RX3, "readTrait", "(Ljava/lang/String;[III)Z"⟩
abbrev cX3_readShare : ByteArray := prog_5_method_12_code
def yX3_readShare : MethodName := ⟨RX3, "readShare", "()Z"⟩
abbrev cX3_step : ByteArray := prog_5_method_13_code
def yX3_step : MethodName := ⟨RX3, "step", "()V"⟩
abbrev cX3_isNext : ByteArray := prog_5_method_14_code
def yX3_isNext : MethodName := ⟨RX3, "isNext", "(I)Z"⟩
abbrev cX3_takeNumber : ByteArray := prog_5_method_15_code
def yX3_takeNumber : MethodName := ⟨RX3, "takeNumber", "(I)Z"⟩
abbrev cX3_isWord : ByteArray := prog_5_method_16_code
def yX3_isWord : MethodName := ⟨RX3, "isWord", "(Ljava/lang/String;)Z"⟩
abbrev cX3_kindOfWord : ByteArray := prog_5_method_17_code
def yX3_kindOfWord : MethodName := ⟨RX3, "kindOfWord", "()I"⟩
def RX4 : String := "SharedShadow$Rest"
def TX4 : u_T := fun k => match k with
  | 0 => ("SharedShadow$Rest", "to", "LSharedShadow$Land;", true)
  | 1 => ("SharedShadow$Rest", "have", "[I", true)
  | 2 => ("SharedShadow$Rest", "first", "I", false)
  | _ => ("SharedShadow$Rest", "left", "I", false)
def tyX4 : Nat → FieldType := fun k => match k with
  | 0 => .object "SharedShadow$Land"
  | 1 => .array .int
  | 2 => .int
  | _ => .int
abbrev wsX40 : List Cond := u_ws RX4 TX4 4
theorem nmX4 : ∀ a, a < 4 → ∀ b, b < 4 → a ≠ b → (TX4 a).2.1 ≠ (TX4 b).2.1 := by decide +kernel
theorem tyX4_ok : ∀ k, k < 4 → parseFieldDescriptor (TX4 k).2.2.1 = some (tyX4 k) := by decide +kernel
abbrev cX4_init : ByteArray := prog_6_method_1_code
def yX4_init : MethodName := ⟨RX4, "<init>", "()V"⟩
abbrev cX4_see : ByteArray := prog_6_method_2_code
def yX4_see : MethodName := ⟨RX4, "see", "(LSharedShadow$Land;)V"⟩
abbrev cX4_begin : ByteArray := prog_6_method_3_code
def yX4_begin : MethodName := ⟨RX4, "begin", "(LSharedShadow$Land;)V"⟩
abbrev cX4_run : ByteArray := prog_6_method_4_code
def yX4_run : MethodName := ⟨RX4, "run", "()V"⟩
abbrev cX4_shadeOf : ByteArray := prog_6_method_5_code
def yX4_shadeOf : MethodName := ⟨RX4, "shadeOf", "(I)I"⟩
abbrev cX4_servedOf : ByteArray := prog_6_method_6_code
def yX4_servedOf : MethodName := ⟨RX4, "servedOf", "(I)I"⟩
abbrev cX4_metOf : ByteArray := prog_6_method_7_code
def yX4_metOf : MethodName := ⟨RX4, "metOf", "(I)I"⟩
abbrev cX4_metOfAll : ByteArray := prog_6_method_8_code
def yX4_metOfAll : MethodName := ⟨RX4, "metOfAll", "()I"⟩
abbrev cX4_firstCold : ByteArray := prog_6_method_9_code
def yX4_firstCold : MethodName := ⟨RX4, "firstCold", "(I)I"⟩
abbrev cX4_sunOf : ByteArray := prog_6_method_10_code
def yX4_sunOf : MethodName := ⟨RX4, "sunOf", "(I)I"⟩
abbrev cX4_isShadowSet : ByteArray := prog_6_method_11_code
def yX4_isShadowSet : MethodName := ⟨RX4, "isShadowSet", "(II)Z"⟩
abbrev cX4_isShadeOf : ByteArray := prog_6_method_12_code
def yX4_isShadeOf : MethodName := ⟨RX4, "isShadeOf", "(ILSharedShadow$Sheet;)Z"⟩
def RX5 : String := "SharedShadow$Sheet"
def TX5 : u_T := fun k => match k with
  | 0 => ("SharedShadow$Sheet", "numbers", "[I", true)
  | 1 => ("SharedShadow$Sheet", "bits", "I", false)
  | _ => ("SharedShadow$Sheet", "length", "I", false)
def tyX5 : Nat → FieldType := fun k => match k with
  | 0 => .array .int
  | 1 => .int
  | _ => .int
abbrev wsX50 : List Cond := u_ws RX5 TX5 3
theorem nmX5 : ∀ a, a < 3 → ∀ b, b < 3 → a ≠ b → (TX5 a).2.1 ≠ (TX5 b).2.1 := by decide +kernel
theorem tyX5_ok : ∀ k, k < 3 → parseFieldDescriptor (TX5 k).2.2.1 = some (tyX5 k) := by decide +kernel
abbrev cX5_init : ByteArray := prog_7_method_1_code
def yX5_init : MethodName := ⟨RX5, "<init>", "()V"⟩
abbrev cX5_isMissing : ByteArray := prog_7_method_2_code
def yX5_isMissing : MethodName := ⟨RX5, "isMissing", "()Z"⟩
abbrev cX5_renew : ByteArray := prog_7_method_3_code
def yX5_renew : MethodName := ⟨RX5, "renew", "(II)V"⟩
abbrev cX5_put : ByteArray := prog_7_method_4_code
def yX5_put : MethodName := ⟨RX5, "put", "(II)V"⟩
abbrev cX5_hasRun : ByteArray := prog_7_method_5_code
def yX5_hasRun : MethodName := ⟨RX5, "hasRun", "(II)Z"⟩
abbrev cX5_tellsSetsOf : ByteArray := prog_7_method_6_code
def yX5_tellsSetsOf : MethodName := ⟨RX5, "tellsSetsOf", "(II)Z"⟩
def RX6 : String := "SharedShadow$Tape"
def TX6 : u_T := fun k => match k with
  | 0 => ("SharedShadow$Tape", "bytes", "[I", true)
  | _ => ("SharedShadow$Tape", "length", "I", false)
def tyX6 : Nat → FieldType := fun k => match k with
  | 0 => .array .int
  | _ => .int
abbrev wsX60 : List Cond := u_ws RX6 TX6 2
theorem nmX6 : ∀ a, a < 2 → ∀ b, b < 2 → a ≠ b → (TX6 a).2.1 ≠ (TX6 b).2.1 := by decide +kernel
theorem tyX6_ok : ∀ k, k < 2 → parseFieldDescriptor (TX6 k).2.2.1 = some (tyX6 k) := by decide +kernel
abbrev cX6_init : ByteArray := prog_8_method_1_code
def yX6_init : MethodName := ⟨RX6, "<init>", "()V"⟩
abbrev cX6_append : ByteArray := prog_8_method_2_code
def yX6_append : MethodName := ⟨RX6, "append", "(I)V"⟩
abbrev cX6_byteAt : ByteArray := prog_8_method_3_code
def yX6_byteAt : MethodName := ⟨RX6, "byteAt", "(I)I"⟩
def RX7 : String := "SharedShadow"
def TX7 : u_T := fun k => match k with
  | 0 => ("SharedShadow", "land", "LSharedShadow$Land;", true)
  | 1 => ("SharedShadow", "kept", "LSharedShadow$Land;", true)
  | 2 => ("SharedShadow", "rest", "LSharedShadow$Rest;", true)
  | 3 => ("SharedShadow", "agreement", "LSharedShadow$Agreement;", true)
  | 4 => ("SharedShadow", "pairings", "LSharedShadow$Pairings;", true)
  | 5 => ("SharedShadow", "reader", "LSharedShadow$Reader;", true)
  | 6 => ("SharedShadow", "tape", "LSharedShadow$Tape;", true)
  | 7 => ("SharedShadow", "sheets", "[LSharedShadow$Sheet;", true)
  | 8 => ("SharedShadow", "findings", "[I", true)
  | _ => ("SharedShadow", "isKept", "Z", false)
def tyX7 : Nat → FieldType := fun k => match k with
  | 0 => .object "SharedShadow$Land"
  | 1 => .object "SharedShadow$Land"
  | 2 => .object "SharedShadow$Rest"
  | 3 => .object "SharedShadow$Agreement"
  | 4 => .object "SharedShadow$Pairings"
  | 5 => .object "SharedShadow$Reader"
  | 6 => .object "SharedShadow$Tape"
  | 7 => .array (.object "SharedShadow$Sheet")
  | 8 => .array .int
  | _ => .boolean
abbrev wsX70 : List Cond := u_ws RX7 TX7 10
theorem nmX7 : ∀ a, a < 10 → ∀ b, b < 10 → a ≠ b → (TX7 a).2.1 ≠ (TX7 b).2.1 := by decide +kernel
theorem tyX7_ok : ∀ k, k < 10 → parseFieldDescriptor (TX7 k).2.2.1 = some (tyX7 k) := by decide +kernel
abbrev cX7_init : ByteArray := prog_1_method_1_code
def yX7_init : MethodName := ⟨RX7, "<init>", "()V"⟩
abbrev cX7_person : ByteArray := prog_1_method_2_code
def yX7_person : MethodName := ⟨RX7, "person", "(I)I"⟩
abbrev cX7_of : ByteArray := prog_1_method_3_code
def yX7_of : MethodName := ⟨RX7, "of", "(II)I"⟩
abbrev cX7_change : ByteArray := prog_1_method_4_code
def yX7_change : MethodName := ⟨RX7, "change", "(III)I"⟩
abbrev cX7_share : ByteArray := prog_1_method_5_code
def yX7_share : MethodName := ⟨RX7, "share", "(II)I"⟩
abbrev cX7_part : ByteArray := prog_1_method_6_code
def yX7_part : MethodName := ⟨RX7, "part", "(I)I"⟩
abbrev cX7_light : ByteArray := prog_1_method_7_code
def yX7_light : MethodName := ⟨RX7, "light", "(I)I"⟩
abbrev cX7_claim : ByteArray := prog_1_method_8_code
def yX7_claim : MethodName := ⟨RX7, "claim", "(II)I"⟩
abbrev cX7_go : ByteArray := prog_1_method_9_code
def yX7_go : MethodName := ⟨RX7, "go", "(I)I"⟩
abbrev cX7_at : ByteArray := prog_1_method_10_code
def yX7_at : MethodName := ⟨RX7, "at", "(I)I"⟩
abbrev cX7_now : ByteArray := prog_1_method_11_code
def yX7_now : MethodName := ⟨RX7, "now", "(I)I"⟩
abbrev cX7_met : ByteArray := prog_1_method_12_code
def yX7_met : MethodName := ⟨RX7, "met", "(I)I"⟩
abbrev cX7_cold : ByteArray := prog_1_method_13_code
def yX7_cold : MethodName := ⟨RX7, "cold", "(I)I"⟩
abbrev cX7_shade : ByteArray := prog_1_method_14_code
def yX7_shade : MethodName := ⟨RX7, "shade", "(I)I"⟩
abbrev cX7_all : ByteArray := prog_1_method_15_code
def yX7_all : MethodName := ⟨RX7, "all", "()I"⟩
abbrev cX7_tan : ByteArray := prog_1_method_16_code
def yX7_tan : MethodName := ⟨RX7, "tan", "(I)I"⟩
abbrev cX7_strong : ByteArray := prog_1_method_17_code
def yX7_strong : MethodName := ⟨RX7, "strong", "(I)I"⟩
abbrev cX7_kindFor : ByteArray := prog_1_method_18_code
def yX7_kindFor : MethodName := ⟨RX7, "kindFor", "(I)I"⟩
abbrev cX7_cloud : ByteArray := prog_1_method_19_code
def yX7_cloud : MethodName := ⟨RX7, "cloud", "()I"⟩
abbrev cX7_agree : ByteArray := prog_1_method_20_code
def yX7_agree : MethodName := ⟨RX7, "agree", "(II)I"⟩
abbrev cX7_changes : ByteArray := prog_1_method_21_code
def yX7_changes : MethodName := ⟨RX7, "changes", "(II)I"⟩
abbrev cX7_holder : ByteArray := prog_1_method_22_code
def yX7_holder : MethodName := ⟨RX7, "holder", "(III)I"⟩
abbrev cX7_gain : ByteArray := prog_1_method_23_code
def yX7_gain : MethodName := ⟨RX7, "gain", "(II)I"⟩
abbrev cX7_pairs : ByteArray := prog_1_method_24_code
def yX7_pairs : MethodName := ⟨RX7, "pairs", "()I"⟩
abbrev cX7_mate : ByteArray := prog_1_method_25_code
def yX7_mate : MethodName := ⟨RX7, "mate", "(I)I"⟩
abbrev cX7_ways : ByteArray := prog_1_method_26_code
def yX7_ways : MethodName := ⟨RX7, "ways", "()I"⟩
abbrev cX7_broken : ByteArray := prog_1_method_27_code
def yX7_broken : MethodName := ⟨RX7, "broken", "()I"⟩
abbrev cX7_fits : ByteArray := prog_1_method_28_code
def yX7_fits : MethodName := ⟨RX7, "fits", "(I)I"⟩
abbrev cX7_may : ByteArray := prog_1_method_29_code
def yX7_may : MethodName := ⟨RX7, "may", "(II)I"⟩
abbrev cX7_duel : ByteArray := prog_1_method_30_code
def yX7_duel : MethodName := ⟨RX7, "duel", "(II)I"⟩
abbrev cX7_lanterns : ByteArray := prog_1_method_31_code
def yX7_lanterns : MethodName := ⟨RX7, "lanterns", "(III)J"⟩
abbrev cX7_days : ByteArray := prog_1_method_32_code
def yX7_days : MethodName := ⟨RX7, "days", "(I)I"⟩
abbrev cX7_seed : ByteArray := prog_1_method_33_code
def yX7_seed : MethodName := ⟨RX7, "seed", "(I)I"⟩
abbrev cX7_feed : ByteArray := prog_1_method_34_code
def yX7_feed : MethodName := ⟨RX7, "feed", "(II)I"⟩
abbrev cX7_wipe : ByteArray := prog_1_method_35_code
def yX7_wipe : MethodName := ⟨RX7, "wipe", "()I"⟩
abbrev cX7_text : ByteArray := prog_1_method_36_code
def yX7_text : MethodName := ⟨RX7, "text", "()I"⟩
abbrev cX7_hold : ByteArray := prog_1_method_37_code
def yX7_hold : MethodName := ⟨RX7, "hold", "(II)I"⟩
abbrev cX7_as : ByteArray := prog_1_method_38_code
def yX7_as : MethodName := ⟨RX7, "as", "(II)I"⟩
abbrev cX7_sheet : ByteArray := prog_1_method_39_code
def yX7_sheet : MethodName := ⟨RX7, "sheet", "(III)I"⟩
abbrev cX7_write : ByteArray := prog_1_method_40_code
def yX7_write : MethodName := ⟨RX7, "write", "(III)I"⟩
abbrev cX7_copy : ByteArray := prog_1_method_41_code
def yX7_copy : MethodName := ⟨RX7, "copy", "(IIIII)I"⟩
abbrev cX7_load : ByteArray := prog_1_method_42_code
def yX7_load : MethodName := ⟨RX7, "load", "(I)I"⟩
abbrev cX7_judge : ByteArray := prog_1_method_43_code
def yX7_judge : MethodName := ⟨RX7, "judge", "(I)I"⟩
abbrev cX7_image : ByteArray := prog_1_method_44_code
def yX7_image : MethodName := ⟨RX7, "image", "()I"⟩
abbrev cX7_undo : ByteArray := prog_1_method_45_code
def yX7_undo : MethodName := ⟨RX7, "undo", "()I"⟩
abbrev cX7_tear : ByteArray := prog_1_method_46_code
def yX7_tear : MethodName := ⟨RX7, "tear", "()I"⟩
abbrev cX7_count : ByteArray := prog_1_method_47_code
def yX7_count : MethodName := ⟨RX7, "count", "(I)I"⟩
abbrev cX7_status : ByteArray := prog_1_method_48_code
def yX7_status : MethodName := ⟨RX7, "status", "(I)I"⟩
abbrev cX7_found : ByteArray := prog_1_method_49_code
def yX7_found : MethodName := ⟨RX7, "found", "(I)I"⟩
abbrev cX7_isSheet : ByteArray := prog_1_method_50_code
def yX7_isSheet : MethodName := ⟨RX7, "isSheet", "(I)Z"⟩
abbrev cX7_lackOf : ByteArray := prog_1_method_51_code
def yX7_lackOf : MethodName := ⟨RX7, "lackOf", "(I)I"⟩
abbrev cX7_replace : ByteArray := prog_1_method_52_code
def yX7_replace : MethodName := ⟨RX7, "replace", "([IIII)I"⟩
abbrev cX7_weighByAgreements : ByteArray := prog_1_method_53_code
def yX7_weighByAgreements : MethodName := ⟨RX7, "weighByAgreements", "()V"⟩
abbrev cX7_weighByShade : ByteArray := prog_1_method_54_code
def yX7_weighByShade : MethodName := ⟨RX7, "weighByShade", "(LSharedShadow$Sheet;)Z"⟩
abbrev cX7_wouldRatherAgree : ByteArray := prog_1_method_55_code
def yX7_wouldRatherAgree : MethodName := ⟨RX7, "wouldRatherAgree", "(II)Z"⟩
abbrev cX7_duelForce : ByteArray := prog_1_method_56_code
def yX7_duelForce : MethodName := ⟨RX7, "duelForce", "(II)I"⟩
abbrev cX7_isWithin : ByteArray := prog_1_method_57_code
def yX7_isWithin : MethodName := ⟨RX7, "isWithin", "(II)Z"⟩
abbrev cX7_bit : ByteArray := prog_1_method_58_code
def yX7_bit : MethodName := ⟨RX7, "bit", "(II)I"⟩
abbrev cX7_sum : ByteArray := prog_1_method_59_code
def yX7_sum : MethodName := ⟨RX7, "sum", "([I)I"⟩
abbrev cX7_commonDivisor : ByteArray := prog_1_method_60_code
def yX7_commonDivisor : MethodName := ⟨RX7, "commonDivisor", "(II)I"⟩
abbrev cX7_power : ByteArray := prog_1_method_61_code
def yX7_power : MethodName := ⟨RX7, "power", "(II)J"⟩
def RX8 : String := "SharedShadowModel"
def TX8 : u_T := fun k => match k with
  | 0 => ("SharedShadowModel", "now", "[I", true)
  | 1 => ("SharedShadowModel", "kept", "[I", true)
  | 2 => ("SharedShadowModel", "aside", "[I", true)
  | 3 => ("SharedShadowModel", "isKept", "Z", false)
  | 4 => ("SharedShadowModel", "found", "[I", true)
  | 5 => ("SharedShadowModel", "servedThen", "I", false)
  | 6 => ("SharedShadowModel", "shadeThen", "I", false)
  | 7 => ("SharedShadowModel", "metThen", "I", false)
  | 8 => ("SharedShadowModel", "sunThen", "I", false)
  | 9 => ("SharedShadowModel", "fewest", "[I", true)
  | 10 => ("SharedShadowModel", "mosts", "[I", true)
  | 11 => ("SharedShadowModel", "many", "[I", true)
  | 12 => ("SharedShadowModel", "mayFound", "I", false)
  | 13 => ("SharedShadowModel", "mates", "[I", true)
  | 14 => ("SharedShadowModel", "tape", "[I", true)
  | 15 => ("SharedShadowModel", "taped", "I", false)
  | 16 => ("SharedShadowModel", "begins", "I", false)
  | 17 => ("SharedShadowModel", "ends", "I", false)
  | 18 => ("SharedShadowModel", "sort", "I", false)
  | 19 => ("SharedShadowModel", "value", "I", false)
  | 20 => ("SharedShadowModel", "isWrong", "Z", false)
  | 21 => ("SharedShadowModel", "kinds", "[Ljava/lang/String;", true)
  | 22 => ("SharedShadowModel", "items", "[I", true)
  | 23 => ("SharedShadowModel", "itemMany", "I", false)
  | 24 => ("SharedShadowModel", "personThen", "I", false)
  | 25 => ("SharedShadowModel", "widths", "[I", true)
  | 26 => ("SharedShadowModel", "sizes", "[I", true)
  | 27 => ("SharedShadowModel", "numbers", "[I", true)
  | _ => ("SharedShadowModel", "moved", "[I", true)
def tyX8 : Nat → FieldType := fun k => match k with
  | 0 => .array .int
  | 1 => .array .int
  | 2 => .array .int
  | 3 => .boolean
  | 4 => .array .int
  | 5 => .int
  | 6 => .int
  | 7 => .int
  | 8 => .int
  | 9 => .array .int
  | 10 => .array .int
  | 11 => .array .int
  | 12 => .int
  | 13 => .array .int
  | 14 => .array .int
  | 15 => .int
  | 16 => .int
  | 17 => .int
  | 18 => .int
  | 19 => .int
  | 20 => .boolean
  | 21 => .array (.object "java/lang/String")
  | 22 => .array .int
  | 23 => .int
  | 24 => .int
  | 25 => .array .int
  | 26 => .array .int
  | 27 => .array .int
  | _ => .array .int
abbrev wsX80 : List Cond := u_ws RX8 TX8 29
theorem nmX8 : ∀ a, a < 29 → ∀ b, b < 29 → a ≠ b → (TX8 a).2.1 ≠ (TX8 b).2.1 := by decide +kernel
theorem tyX8_ok : ∀ k, k < 29 → parseFieldDescriptor (TX8 k).2.2.1 = some (tyX8 k) := by decide +kernel
abbrev cX8_init : ByteArray := prog_10_method_1_code
def yX8_init : MethodName := ⟨RX8, "<init>", "()V"⟩
abbrev cX8_finding : ByteArray := prog_10_method_2_code
def yX8_finding : MethodName := ⟨RX8, "finding", "(I)I"⟩
abbrev cX8_within : ByteArray := prog_10_method_3_code
def yX8_within : MethodName := ⟨RX8, "within", "(III)Z"⟩
abbrev cX8_become : ByteArray := prog_10_method_4_code
def yX8_become : MethodName := ⟨RX8, "become", "(II)I"⟩
abbrev cX8_copyRow : ByteArray := prog_10_method_5_code
def yX8_copyRow : MethodName := ⟨RX8, "copyRow", "([I[I)V"⟩
abbrev cX8_putBack : ByteArray := prog_10_method_6_code
def yX8_putBack : MethodName := ⟨RX8, "putBack", "(I)I"⟩
abbrev cX8_has : ByteArray := prog_10_method_7_code
def yX8_has : MethodName := ⟨RX8, "has", "(II)Z"⟩
abbrev cX8_bits : ByteArray := prog_10_method_8_code
def yX8_bits : MethodName := ⟨RX8, "bits", "(I)I"⟩
abbrev cX8_isPerson : ByteArray := prog_10_method_9_code
def yX8_isPerson : MethodName := ⟨RX8, "isPerson", "(I)Z"⟩
abbrev cX8_isKind : ByteArray := prog_10_method_10_code
def yX8_isKind : MethodName := ⟨RX8, "isKind", "(I)Z"⟩
abbrev cX8_isHours : ByteArray := prog_10_method_11_code
def yX8_isHours : MethodName := ⟨RX8, "isHours", "(I)Z"⟩
abbrev cX8_at : ByteArray := prog_10_method_12_code
def yX8_at : MethodName := ⟨RX8, "at", "(II)I"⟩
abbrev cX8_personIs : ByteArray := prog_10_method_13_code
def yX8_personIs : MethodName := ⟨RX8, "personIs", "(II)I"⟩
abbrev cX8_comes : ByteArray := prog_10_method_14_code
def yX8_comes : MethodName := ⟨RX8, "comes", "(IIII)I"⟩
abbrev cX8_person : ByteArray := prog_10_method_15_code
def yX8_person : MethodName := ⟨RX8, "person", "(I)I"⟩
abbrev cX8_above : ByteArray := prog_10_method_16_code
def yX8_above : MethodName := ⟨RX8, "above", "(I)I"⟩
abbrev cX8_isUnder : ByteArray := prog_10_method_17_code
def yX8_isUnder : MethodName := ⟨RX8, "isUnder", "(II)Z"⟩
abbrev cX8_claimOf : ByteArray := prog_10_method_18_code
def yX8_claimOf : MethodName := ⟨RX8, "claimOf", "(II)I"⟩
abbrev cX8_firstOf : ByteArray := prog_10_method_19_code
def yX8_firstOf : MethodName := ⟨RX8, "firstOf", "(III)I"⟩
abbrev cX8_isLit : ByteArray := prog_10_method_20_code
def yX8_isLit : MethodName := ⟨RX8, "isLit", "(I)Z"⟩
abbrev cX8_hasShadow : ByteArray := prog_10_method_21_code
def yX8_hasShadow : MethodName := ⟨RX8, "hasShadow", "(II)Z"⟩
abbrev cX8_whoHave : ByteArray := prog_10_method_22_code
def yX8_whoHave : MethodName := ⟨RX8, "whoHave", "(I)I"⟩
abbrev cX8_isOver : ByteArray := prog_10_method_23_code
def yX8_isOver : MethodName := ⟨RX8, "isOver", "()Z"⟩
abbrev cX8_of : ByteArray := prog_10_method_24_code
def yX8_of : MethodName := ⟨RX8, "of", "(II)I"⟩
abbrev cX8_change : ByteArray := prog_10_method_25_code
def yX8_change : MethodName := ⟨RX8, "change", "(III)I"⟩
abbrev cX8_parts : ByteArray := prog_10_method_26_code
def yX8_parts : MethodName := ⟨RX8, "parts", "(I)I"⟩
abbrev cX8_areMates : ByteArray := prog_10_method_27_code
def yX8_areMates : MethodName := ⟨RX8, "areMates", "(II)I"⟩
abbrev cX8_areTwo : ByteArray := prog_10_method_28_code
def yX8_areTwo : MethodName := ⟨RX8, "areTwo", "(II)Z"⟩
abbrev cX8_share : ByteArray := prog_10_method_29_code
def yX8_share : MethodName := ⟨RX8, "share", "(II)I"⟩
abbrev cX8_part : ByteArray := prog_10_method_30_code
def yX8_part : MethodName := ⟨RX8, "part", "(I)I"⟩
abbrev cX8_light : ByteArray := prog_10_method_31_code
def yX8_light : MethodName := ⟨RX8, "light", "(I)I"⟩
abbrev cX8_claim : ByteArray := prog_10_method_32_code
def yX8_claim : MethodName := ⟨RX8, "claim", "(II)I"⟩
abbrev cX8_hour : ByteArray := prog_10_method_33_code
def yX8_hour : MethodName := ⟨RX8, "hour", "()V"⟩
abbrev cX8_hoursGo : ByteArray := prog_10_method_34_code
def yX8_hoursGo : MethodName := ⟨RX8, "hoursGo", "(I)I"⟩
abbrev cX8_go : ByteArray := prog_10_method_35_code
def yX8_go : MethodName := ⟨RX8, "go", "(I)I"⟩
abbrev cX8_at_ : ByteArray := prog_10_method_36_code
def yX8_at_ : MethodName := ⟨RX8, "at", "(I)I"⟩
abbrev cX8_now : ByteArray := prog_10_method_37_code
def yX8_now : MethodName := ⟨RX8, "now", "(I)I"⟩
abbrev cX8_findRest : ByteArray := prog_10_method_38_code
def yX8_findRest : MethodName := ⟨RX8, "findRest", "(I)V"⟩
abbrev cX8_met : ByteArray := prog_10_method_39_code
def yX8_met : MethodName := ⟨RX8, "met", "(I)I"⟩
abbrev cX8_restHours : ByteArray := prog_10_method_40_code
def yX8_restHours : MethodName := ⟨RX8, "restHours", "()I"⟩
abbrev cX8_cold : ByteArray := prog_10_method_41_code
def yX8_cold : MethodName := ⟨RX8, "cold", "(I)I"⟩
abbrev cX8_shade : ByteArray := prog_10_method_42_code
def yX8_shade : MethodName := ⟨RX8, "shade", "(I)I"⟩
abbrev cX8_metByAll : ByteArray := prog_10_method_43_code
def yX8_metByAll : MethodName := ⟨RX8, "metByAll", "()I"⟩
abbrev cX8_all : ByteArray := prog_10_method_44_code
def yX8_all : MethodName := ⟨RX8, "all", "()I"⟩
abbrev cX8_tan : ByteArray := prog_10_method_45_code
def yX8_tan : MethodName := ⟨RX8, "tan", "(I)I"⟩
abbrev cX8_strong : ByteArray := prog_10_method_46_code
def yX8_strong : MethodName := ⟨RX8, "strong", "(I)I"⟩
abbrev cX8_kindFor : ByteArray := prog_10_method_47_code
def yX8_kindFor : MethodName := ⟨RX8, "kindFor", "(I)I"⟩
abbrev cX8_cloud : ByteArray := prog_10_method_48_code
def yX8_cloud : MethodName := ⟨RX8, "cloud", "()I"⟩
abbrev cX8_mayHave : ByteArray := prog_10_method_49_code
def yX8_mayHave : MethodName := ⟨RX8, "mayHave", "(IIII)Z"⟩
abbrev cX8_changesWith : ByteArray := prog_10_method_50_code
def yX8_changesWith : MethodName := ⟨RX8, "changesWith", "(III)I"⟩
abbrev cX8_findAgreement : ByteArray := prog_10_method_51_code
def yX8_findAgreement : MethodName := ⟨RX8, "findAgreement", "(II)I"⟩
abbrev cX8_needsIn : ByteArray := prog_10_method_52_code
def yX8_needsIn : MethodName := ⟨RX8, "needsIn", "(II)I"⟩
abbrev cX8_meets : ByteArray := prog_10_method_53_code
def yX8_meets : MethodName := ⟨RX8, "meets", "(II)I"⟩
abbrev cX8_agree : ByteArray := prog_10_method_54_code
def yX8_agree : MethodName := ⟨RX8, "agree", "(II)I"⟩
abbrev cX8_changes : ByteArray := prog_10_method_55_code
def yX8_changes : MethodName := ⟨RX8, "changes", "(II)I"⟩
abbrev cX8_heldByLess : ByteArray := prog_10_method_56_code
def yX8_heldByLess : MethodName := ⟨RX8, "heldByLess", "(II)I"⟩
abbrev cX8_holder : ByteArray := prog_10_method_57_code
def yX8_holder : MethodName := ⟨RX8, "holder", "(III)I"⟩
abbrev cX8_gain : ByteArray := prog_10_method_58_code
def yX8_gain : MethodName := ⟨RX8, "gain", "(II)I"⟩
abbrev cX8_lowest : ByteArray := prog_10_method_59_code
def yX8_lowest : MethodName := ⟨RX8, "lowest", "(I)I"⟩
abbrev cX8_mostWith : ByteArray := prog_10_method_60_code
def yX8_mostWith : MethodName := ⟨RX8, "mostWith", "(II)I"⟩
abbrev cX8_mayBe : ByteArray := prog_10_method_61_code
def yX8_mayBe : MethodName := ⟨RX8, "mayBe", "(II)Z"⟩
abbrev cX8_findPairs : ByteArray := prog_10_method_62_code
def yX8_findPairs : MethodName := ⟨RX8, "findPairs", "()I"⟩
abbrev cX8_pairs : ByteArray := prog_10_method_63_code
def yX8_pairs : MethodName := ⟨RX8, "pairs", "()I"⟩
abbrev cX8_mate : ByteArray := prog_10_method_64_code
def yX8_mate : MethodName := ⟨RX8, "mate", "(I)I"⟩
abbrev cX8_ways : ByteArray := prog_10_method_65_code
def yX8_ways : MethodName := ⟨RX8, "ways", "()I"⟩
abbrev cX8_wouldBreak : ByteArray := prog_10_method_66_code
def yX8_wouldBreak : MethodName := ⟨RX8, "wouldBreak", "(II)Z"⟩
abbrev cX8_broken : ByteArray := prog_10_method_67_code
def yX8_broken : MethodName := ⟨RX8, "broken", "()I"⟩
abbrev cX8_isSeen : ByteArray := prog_10_method_68_code
def yX8_isSeen : MethodName := ⟨RX8, "isSeen", "(I)Z"⟩
abbrev cX8_seenWays : ByteArray := prog_10_method_69_code
def yX8_seenWays : MethodName := ⟨RX8, "seenWays", "(III)I"⟩
abbrev cX8_findSeen : ByteArray := prog_10_method_70_code
def yX8_findSeen : MethodName := ⟨RX8, "findSeen", "(II)I"⟩
abbrev cX8_fits : ByteArray := prog_10_method_71_code
def yX8_fits : MethodName := ⟨RX8, "fits", "(I)I"⟩
abbrev cX8_may : ByteArray := prog_10_method_72_code
def yX8_may : MethodName := ⟨RX8, "may", "(II)I"⟩
abbrev cX8_mightOf : ByteArray := prog_10_method_73_code
def yX8_mightOf : MethodName := ⟨RX8, "mightOf", "(II)I"⟩
abbrev cX8_duel : ByteArray := prog_10_method_74_code
def yX8_duel : MethodName := ⟨RX8, "duel", "(II)I"⟩
abbrev cX8_common : ByteArray := prog_10_method_75_code
def yX8_common : MethodName := ⟨RX8, "common", "(II)I"⟩
abbrev cX8_lanterns : ByteArray := prog_10_method_76_code
def yX8_lanterns : MethodName := ⟨RX8, "lanterns", "(III)J"⟩
abbrev cX8_drawn : ByteArray := prog_10_method_77_code
def yX8_drawn : MethodName := ⟨RX8, "drawn", "()I"⟩
abbrev cX8_days : ByteArray := prog_10_method_78_code
def yX8_days : MethodName := ⟨RX8, "days", "(I)I"⟩
abbrev cX8_seed : ByteArray := prog_10_method_79_code
def yX8_seed : MethodName := ⟨RX8, "seed", "(I)I"⟩
abbrev cX8_feed : ByteArray := prog_10_method_80_code
def yX8_feed : MethodName := ⟨RX8, "feed", "(II)I"⟩
abbrev cX8_wipe : ByteArray := prog_10_method_81_code
def yX8_wipe : MethodName := ⟨RX8, "wipe", "()I"⟩
abbrev cX8_byteAt : ByteArray := prog_10_method_82_code
def yX8_byteAt : MethodName := ⟨RX8, "byteAt", "(I)I"⟩
abbrev cX8_next : ByteArray := prog_10_method_83_code
def yX8_next : MethodName := ⟨RX8, "next", "()V"⟩
abbrev cX8_isWord : ByteArray := prog_10_method_84_code
def yX8_isWord : MethodName := ⟨RX8, "isWord", "(Ljava/lang/String;)Z"⟩
abbrev cX8_must : ByteArray := prog_10_method_85_code
def yX8_must : MethodName := ⟨RX8, "must", "(Z)V"⟩
abbrev cX8_number : ByteArray := prog_10_method_86_code
def yX8_number : MethodName := ⟨RX8, "number", "(II)I"⟩
abbrev cX8_item : ByteArray := prog_10_method_87_code
def yX8_item : MethodName := ⟨RX8, "item", "(IIII)V"⟩
abbrev cX8_kindTold : ByteArray := prog_10_method_88_code
def yX8_kindTold : MethodName := ⟨RX8, "kindTold", "()I"⟩
abbrev cX8_isNext : ByteArray := prog_10_method_89_code
def yX8_isNext : MethodName := ⟨RX8, "isNext", "(Ljava/lang/String;)Z"⟩
abbrev cX8_another : ByteArray := prog_10_method_90_code
def yX8_another : MethodName := ⟨RX8, "another", "(I)I"⟩
abbrev cX8_readItem : ByteArray := prog_10_method_91_code
def yX8_readItem : MethodName := ⟨RX8, "readItem", "()V"⟩
abbrev cX8_isSo : ByteArray := prog_10_method_92_code
def yX8_isSo : MethodName := ⟨RX8, "isSo", "(I)I"⟩
abbrev cX8_text : ByteArray := prog_10_method_93_code
def yX8_text : MethodName := ⟨RX8, "text", "()I"⟩
abbrev cX8_isSpot : ByteArray := prog_10_method_94_code
def yX8_isSpot : MethodName := ⟨RX8, "isSpot", "(I)Z"⟩
abbrev cX8_hold : ByteArray := prog_10_method_95_code
def yX8_hold : MethodName := ⟨RX8, "hold", "(II)I"⟩
abbrev cX8_as : ByteArray := prog_10_method_96_code
def yX8_as : MethodName := ⟨RX8, "as", "(II)I"⟩
abbrev cX8_isSheet : ByteArray := prog_10_method_97_code
def yX8_isSheet : MethodName := ⟨RX8, "isSheet", "(I)Z"⟩
abbrev cX8_cutTo : ByteArray := prog_10_method_98_code
def yX8_cutTo : MethodName := ⟨RX8, "cutTo", "(II)I"⟩
abbrev cX8_sheet : ByteArray := prog_10_method_99_code
def yX8_sheet : MethodName := ⟨RX8, "sheet", "(III)I"⟩
abbrev cX8_write : ByteArray := prog_10_method_100_code
def yX8_write : MethodName := ⟨RX8, "write", "(III)I"⟩
abbrev cX8_copy : ByteArray := prog_10_method_101_code
def yX8_copy : MethodName := ⟨RX8, "copy", "(IIIII)I"⟩
abbrev cX8_load : ByteArray := prog_10_method_102_code
def yX8_load : MethodName := ⟨RX8, "load", "(I)I"⟩
abbrev cX8_judge : ByteArray := prog_10_method_103_code
def yX8_judge : MethodName := ⟨RX8, "judge", "(I)I"⟩
abbrev cX8_image : ByteArray := prog_10_method_104_code
def yX8_image : MethodName := ⟨RX8, "image", "()I"⟩
abbrev cX8_undo : ByteArray := prog_10_method_105_code
def yX8_undo : MethodName := ⟨RX8, "undo", "()I"⟩
abbrev cX8_tear : ByteArray := prog_10_method_106_code
def yX8_tear : MethodName := ⟨RX8, "tear", "()I"⟩
abbrev cX8_count : ByteArray := prog_10_method_107_code
def yX8_count : MethodName := ⟨RX8, "count", "(I)I"⟩
abbrev cX8_status : ByteArray := prog_10_method_108_code
def yX8_status : MethodName := ⟨RX8, "status", "(I)I"⟩
def RJ6 : String := "java/lang/Integer"
def TJ6 : u_T := fun k => match k with
  | _ => ("", "", "", false)
def tyJ6 : Nat → FieldType := fun k => match k with
  | _ => .int
abbrev wsJ60 : List Cond := u_ws RJ6 TJ6 0
theorem nmJ6 : ∀ a, a < 0 → ∀ b, b < 0 → a ≠ b → (TJ6 a).2.1 ≠ (TJ6 b).2.1 := by decide +kernel
theorem tyJ6_ok : ∀ k, k < 0 → parseFieldDescriptor (TJ6 k).2.2.1 = some (tyJ6 k) := by decide +kernel
abbrev cJ6_bitCount_0f7a4 : ByteArray := prog_11_method_49_code
def yJ6_bitCount_0f7a4 : MethodName := ⟨RJ6, "bitCount", "(I)I"⟩
def RJ9 : String := "java/lang/Math"
def TJ9 : u_T := fun k => match k with
  | _ => ("", "", "", false)
def tyJ9 : Nat → FieldType := fun k => match k with
  | _ => .int
abbrev wsJ90 : List Cond := u_ws RJ9 TJ9 0
theorem nmJ9 : ∀ a, a < 0 → ∀ b, b < 0 → a ≠ b → (TJ9 a).2.1 ≠ (TJ9 b).2.1 := by decide +kernel
theorem tyJ9_ok : ∀ k, k < 0 → parseFieldDescriptor (TJ9 k).2.2.1 = some (tyJ9 k) := by decide +kernel
abbrev cJ9_max_7cf53 : ByteArray := prog_12_method_65_code
def yJ9_max_7cf53 : MethodName := ⟨RJ9, "max", "(II)I"⟩
abbrev cJ9_min_7cf53 : ByteArray := prog_12_method_69_code
def yJ9_min_7cf53 : MethodName := ⟨RJ9, "min", "(II)I"⟩
def RJ0 : String := "java/lang/String"
def TJ0 : u_T := fun k => match k with
  | _ => ("", "", "", false)
def tyJ0 : Nat → FieldType := fun k => match k with
  | _ => .int
abbrev wsJ00 : List Cond := u_ws RJ0 TJ0 0
theorem nmJ0 : ∀ a, a < 0 → ∀ b, b < 0 → a ≠ b → (TJ0 a).2.1 ≠ (TJ0 b).2.1 := by decide +kernel
theorem tyJ0_ok : ∀ k, k < 0 → parseFieldDescriptor (TJ0 k).2.2.1 = some (tyJ0 k) := by decide +kernel
abbrev cJ0_length_8abf5 : ByteArray := prog_13_method_54_code
def yJ0_length_8abf5 : MethodName := ⟨RJ0, "length", "()I"⟩
abbrev cJ0_charAt_5068e : ByteArray := prog_13_method_56_code
def yJ0_charAt_5068e : MethodName := ⟨RJ0, "charAt", "(I)C"⟩
abbrev cJ0_coder_7d493 : ByteArray := prog_13_method_152_code
def yJ0_coder_7d493 : MethodName := ⟨RJ0, "coder", "()B"⟩
abbrev cJ0_isLatin1_aae02 : ByteArray := prog_13_method_154_code
def yJ0_isLatin1_aae02 : MethodName := ⟨RJ0, "isLatin1", "()Z"⟩
abbrev cJ0_checkIndex_df160 : ByteArray := prog_13_method_155_code
def yJ0_checkIndex_df160 : MethodName := ⟨RJ0, "checkIndex", "(II)V"⟩
def RJ1 : String := "java/lang/StringLatin1"
def TJ1 : u_T := fun k => match k with
  | _ => ("", "", "", false)
def tyJ1 : Nat → FieldType := fun k => match k with
  | _ => .int
abbrev wsJ10 : List Cond := u_ws RJ1 TJ1 0
theorem nmJ1 : ∀ a, a < 0 → ∀ b, b < 0 → a ≠ b → (TJ1 a).2.1 ≠ (TJ1 b).2.1 := by decide +kernel
theorem tyJ1_ok : ∀ k, k < 0 → parseFieldDescriptor (TJ1 k).2.2.1 = some (tyJ1 k) := by decide +kernel
abbrev cJ1_charAt_3b067 : ByteArray := prog_14_method_2_code
def yJ1_charAt_3b067 : MethodName := ⟨RJ1, "charAt", "([BI)C"⟩
def RJ2 : String := "java/lang/StringUTF16"
def TJ2 : u_T := fun k => match k with
  | _ => ("", "", "", false)
def tyJ2 : Nat → FieldType := fun k => match k with
  | _ => .int
abbrev wsJ20 : List Cond := u_ws RJ2 TJ2 0
theorem nmJ2 : ∀ a, a < 0 → ∀ b, b < 0 → a ≠ b → (TJ2 a).2.1 ≠ (TJ2 b).2.1 := by decide +kernel
theorem tyJ2_ok : ∀ k, k < 0 → parseFieldDescriptor (TJ2 k).2.2.1 = some (tyJ2 k) := by decide +kernel
abbrev cJ2_getChar_3b067 : ByteArray := prog_15_method_5_code
def yJ2_getChar_3b067 : MethodName := ⟨RJ2, "getChar", "([BI)C"⟩
abbrev cJ2_length_9d52b : ByteArray := prog_15_method_6_code
def yJ2_length_9d52b : MethodName := ⟨RJ2, "length", "([B)I"⟩
abbrev cJ2_charAt_3b067 : ByteArray := prog_15_method_83_code
def yJ2_charAt_3b067 : MethodName := ⟨RJ2, "charAt", "([BI)C"⟩
abbrev cJ2_checkIndex_2214a : ByteArray := prog_15_method_91_code
def yJ2_checkIndex_2214a : MethodName := ⟨RJ2, "checkIndex", "(I[B)V"⟩
def RJ10 : String := "java/lang/System"
def TJ10 : u_T := fun k => match k with
  | _ => ("", "", "", false)
def tyJ10 : Nat → FieldType := fun k => match k with
  | _ => .int
abbrev wsJ100 : List Cond := u_ws RJ10 TJ10 0
theorem nmJ10 : ∀ a, a < 0 → ∀ b, b < 0 → a ≠ b → (TJ10 a).2.1 ≠ (TJ10 b).2.1 := by decide +kernel
theorem tyJ10_ok : ∀ k, k < 0 → parseFieldDescriptor (TJ10 k).2.2.1 = some (tyJ10 k) := by decide +kernel
def RJ3 : String := "jdk/internal/util/Preconditions"
def TJ3 : u_T := fun k => match k with
  | _ => ("", "", "", false)
def tyJ3 : Nat → FieldType := fun k => match k with
  | _ => .int
abbrev wsJ30 : List Cond := u_ws RJ3 TJ3 0
theorem nmJ3 : ∀ a, a < 0 → ∀ b, b < 0 → a ≠ b → (TJ3 a).2.1 ≠ (TJ3 b).2.1 := by decide +kernel
theorem tyJ3_ok : ∀ k, k < 0 → parseFieldDescriptor (TJ3 k).2.2.1 = some (tyJ3 k) := by decide +kernel
abbrev cJ3_checkIndex_8e157 : ByteArray := prog_17_method_11_code
def yJ3_checkIndex_8e157 : MethodName := ⟨RJ3, "checkIndex", "(IILjava/util/function/BiFunction;)I"⟩
def RL : String := "SharedShadowLaw"
abbrev cL_law : ByteArray := code
def yL_law : MethodName := ⟨RL, "law", "([I)Z"⟩
def wsX0_init : List Cond := .code yX0_init cX0_init 1 none :: ([.methodLink RX0 3 objectInit, .instanceMethod objectInit, .code objectInit ⟨#[0xb1]⟩ 1 none, .arrayClass .int, .fieldLink RX0 9 "SharedShadow$Agreement" "who" "[I", .fieldLink RX0 15 "SharedShadow$Agreement" "needs" "[I", .fieldLink RX0 18 "SharedShadow$Agreement" "held" "[I", .fieldLink RX0 21 "SharedShadow$Agreement" "behind" "[I", .fieldLink RX0 24 "SharedShadow$Agreement" "shared" "I", .fieldLink RX0 28 "SharedShadow$Agreement" "dark" "I"] ++ wsX00)
def wsX1_isPerson : List Cond := .code yX1_isPerson cX1_isPerson 2 (some .boolean) :: ([.fieldLink RX1 30 "SharedShadow$Land" "people" "I"] ++ wsX10)
def wsX1_areTwo : List Cond := .code yX1_areTwo cX1_areTwo 3 (some .boolean) :: ([.methodLink RX1 56 yX1_isPerson, .instanceMethod yX1_isPerson, .selects RX1 yX1_isPerson yX1_isPerson, .initialized RX1, .code yX1_isPerson cX1_isPerson 2 (some .boolean), .fieldLink RX1 30 "SharedShadow$Land" "people" "I"] ++ wsX10)
def wsX1_hoursLeft : List Cond := .code yX1_hoursLeft cX1_hoursLeft 1 (some .int) :: ([.constant RX1 34 (65535), .fieldLink RX1 38 "SharedShadow$Land" "hour" "I"] ++ wsX10)
def wsX7_bit : List Cond := .code yX7_bit cX7_bit 2 (some .int) :: ([])
def wsX0_worthOf : List Cond := .code yX0_worthOf cX0_worthOf 3 (some .int) :: ([.fieldLink RX0 15 "SharedShadow$Agreement" "needs" "[I", .fieldLink RX0 21 "SharedShadow$Agreement" "behind" "[I", .static yX7_bit, .initialized RX7, .code yX7_bit cX7_bit 2 (some .int)] ++ wsX00)
def wsX0_weighBehind : List Cond := .code yX0_weighBehind cX0_weighBehind 5 none :: ([.fieldLink RX0 21 "SharedShadow$Agreement" "behind" "[I", .fieldLink RX0 24 "SharedShadow$Agreement" "shared" "I", .methodLink RX0 43 Lib.Math.max.name, .static Lib.Math.max.name, .initialized "java/lang/Math", .code Lib.Math.max.name Lib.Math.max.code 2 (some .int), .methodLink RX0 60 yX0_worthOf, .instanceMethod yX0_worthOf, .selects RX0 yX0_worthOf yX0_worthOf, .initialized RX0, .code yX0_worthOf cX0_worthOf 3 (some .int), .fieldLink RX0 15 "SharedShadow$Agreement" "needs" "[I", .static yX7_bit, .initialized RX7, .code yX7_bit cX7_bit 2 (some .int)] ++ wsX00)
def wsX0_choose : List Cond := .code yX0_choose cX0_choose 5 none :: ([.fieldLink RX0 18 "SharedShadow$Agreement" "held" "[I", .fieldLink RX0 24 "SharedShadow$Agreement" "shared" "I", .static yX7_bit, .initialized RX7, .code yX7_bit cX7_bit 2 (some .int), .methodLink RX0 60 yX0_worthOf, .instanceMethod yX0_worthOf, .selects RX0 yX0_worthOf yX0_worthOf, .initialized RX0, .code yX0_worthOf cX0_worthOf 3 (some .int), .fieldLink RX0 15 "SharedShadow$Agreement" "needs" "[I", .fieldLink RX0 21 "SharedShadow$Agreement" "behind" "[I"] ++ wsX00)
def wsX0_make_r1 : List Cond := [Cond.fieldLink RX0 9 "SharedShadow$Agreement" "who" "[I", Cond.methodLink RX0 37 Lib.Math.min.name, Cond.static Lib.Math.min.name, Cond.initialized "java/lang/Math", Cond.code Lib.Math.min.name Lib.Math.min.code 2 (some .int), Cond.methodLink RX0 43 Lib.Math.max.name, Cond.static Lib.Math.max.name, Cond.code Lib.Math.max.name Lib.Math.max.code 2 (some .int), Cond.fieldLink RX0 15 "SharedShadow$Agreement" "needs" "[I", Cond.fieldLink RX0 46 "SharedShadow$Land" "needs" "[I", Cond.fieldLink RX0 51 "SharedShadow$Land" "lit" "I", Cond.fieldLink RX0 24 "SharedShadow$Agreement" "shared" "I", Cond.fieldLink RX0 28 "SharedShadow$Agreement" "dark" "I", Cond.methodLink RX0 31 yX1_areTwo, Cond.instanceMethod yX1_areTwo, Cond.selects RX1 yX1_areTwo yX1_areTwo, Cond.initialized RX1, Cond.code yX1_areTwo cX1_areTwo 3 (some .boolean), Cond.methodLink RX1 56 yX1_isPerson, Cond.instanceMethod yX1_isPerson, Cond.selects RX1 yX1_isPerson yX1_isPerson, Cond.code yX1_isPerson cX1_isPerson 2 (some .boolean), Cond.fieldLink RX1 30 "SharedShadow$Land" "people" "I", Cond.methodLink RX0 47 yX1_hoursLeft]
def wsX0_make_r2 : List Cond := [Cond.instanceMethod yX1_hoursLeft, Cond.selects RX1 yX1_hoursLeft yX1_hoursLeft, Cond.code yX1_hoursLeft cX1_hoursLeft 1 (some .int), Cond.constant RX1 34 (65535), Cond.fieldLink RX1 38 "SharedShadow$Land" "hour" "I", Cond.methodLink RX0 54 yX0_weighBehind, Cond.instanceMethod yX0_weighBehind, Cond.selects RX0 yX0_weighBehind yX0_weighBehind, Cond.initialized RX0, Cond.code yX0_weighBehind cX0_weighBehind 5 none, Cond.fieldLink RX0 21 "SharedShadow$Agreement" "behind" "[I", Cond.methodLink RX0 60 yX0_worthOf, Cond.instanceMethod yX0_worthOf, Cond.selects RX0 yX0_worthOf yX0_worthOf, Cond.code yX0_worthOf cX0_worthOf 3 (some .int), Cond.static yX7_bit, Cond.initialized RX7, Cond.code yX7_bit cX7_bit 2 (some .int), Cond.methodLink RX0 57 yX0_choose, Cond.instanceMethod yX0_choose, Cond.selects RX0 yX0_choose yX0_choose, Cond.code yX0_choose cX0_choose 5 none, Cond.fieldLink RX0 18 "SharedShadow$Agreement" "held" "[I"]
def wsX0_make : List Cond := .code yX0_make cX0_make 4 none :: ((wsX0_make_r1 ++ wsX0_make_r2) ++ wsX00 ++ wsX10)
def wsX0_holderAt : List Cond := .code yX0_holderAt cX0_holderAt 2 (some .int) :: ([.fieldLink RX0 24 "SharedShadow$Agreement" "shared" "I", .fieldLink RX0 9 "SharedShadow$Agreement" "who" "[I", .fieldLink RX0 18 "SharedShadow$Agreement" "held" "[I", .static yX7_bit, .initialized RX7, .code yX7_bit cX7_bit 2 (some .int)] ++ wsX00)
def wsX7_isWithin : List Cond := .code yX7_isWithin cX7_isWithin 2 (some .boolean) :: ([])
def wsJ6_bitCount_0f7a4 : List Cond := .code yJ6_bitCount_0f7a4 cJ6_bitCount_0f7a4 1 (some .int) :: ([.constant RJ6 265 (1431655765), .constant RJ6 266 (858993459), .constant RJ6 267 (252645135)])
def wsX0_metOfSide : List Cond := .code yX0_metOfSide cX0_metOfSide 2 (some .int) :: ([.fieldLink RX0 15 "SharedShadow$Agreement" "needs" "[I", .fieldLink RX0 28 "SharedShadow$Agreement" "dark" "I", .fieldLink RX0 18 "SharedShadow$Agreement" "held" "[I", .static yX7_isWithin, .initialized RX7, .code yX7_isWithin cX7_isWithin 2 (some .boolean), .methodLink RX0 69 yJ6_bitCount_0f7a4, .static yJ6_bitCount_0f7a4, .initialized RJ6, .code yJ6_bitCount_0f7a4 cJ6_bitCount_0f7a4 1 (some .int), .constant RJ6 265 (1431655765), .constant RJ6 266 (858993459), .constant RJ6 267 (252645135)] ++ wsX00)
def wsX0_metOfBoth : List Cond := .code yX0_metOfBoth cX0_metOfBoth 1 (some .int) :: ([.methodLink RX0 75 yX0_metOfSide, .instanceMethod yX0_metOfSide, .selects RX0 yX0_metOfSide yX0_metOfSide, .initialized RX0, .code yX0_metOfSide cX0_metOfSide 2 (some .int), .fieldLink RX0 15 "SharedShadow$Agreement" "needs" "[I", .fieldLink RX0 28 "SharedShadow$Agreement" "dark" "I", .fieldLink RX0 18 "SharedShadow$Agreement" "held" "[I", .static yX7_isWithin, .initialized RX7, .code yX7_isWithin cX7_isWithin 2 (some .boolean), .methodLink RX0 69 yJ6_bitCount_0f7a4, .static yJ6_bitCount_0f7a4, .initialized RJ6, .code yJ6_bitCount_0f7a4 cJ6_bitCount_0f7a4 1 (some .int), .constant RJ6 265 (1431655765), .constant RJ6 266 (858993459), .constant RJ6 267 (252645135)] ++ wsX00)
def wsX0_countChanges : List Cond := .code yX0_countChanges cX0_countChanges 5 (some .int) :: ([.fieldLink RX0 24 "SharedShadow$Agreement" "shared" "I", .fieldLink RX0 18 "SharedShadow$Agreement" "held" "[I", .static yX7_bit, .initialized RX7, .code yX7_bit cX7_bit 2 (some .int)] ++ wsX00)
def wsX1_init : List Cond := .code yX1_init cX1_init 2 none :: ([.methodLink RX1 3 objectInit, .instanceMethod objectInit, .code objectInit ⟨#[0xb1]⟩ 1 none, .arrayClass .int, .fieldLink RX1 9 "SharedShadow$Land" "kind" "[I", .fieldLink RX1 15 "SharedShadow$Land" "sun" "[I", .fieldLink RX1 18 "SharedShadow$Land" "strength" "[I", .fieldLink RX1 21 "SharedShadow$Land" "needs" "[I", .fieldLink RX1 24 "SharedShadow$Land" "partner" "[I", .fieldLink RX1 27 "SharedShadow$Land" "spots" "[I", .fieldLink RX1 30 "SharedShadow$Land" "people" "I", .constant RX1 34 (65535), .fieldLink RX1 35 "SharedShadow$Land" "lit" "I", .fieldLink RX1 38 "SharedShadow$Land" "hour" "I", .fieldLink RX1 41 "SharedShadow$Land" "wereMet" "I", .fieldLink RX1 44 "SharedShadow$Land" "wereMissed" "I", .fieldLink RX1 47 "SharedShadow$Land" "drawn" "I"] ++ wsX10)
def wsX1_become : List Cond := .code yX1_become cX1_become 2 none :: ([.fieldLink RX1 9 "SharedShadow$Land" "kind" "[I", .methodLink RX1 50 arraycopyName, .native arraycopyName, .static arraycopyName, .initialized "java/lang/System", .fieldLink RX1 15 "SharedShadow$Land" "sun" "[I", .fieldLink RX1 18 "SharedShadow$Land" "strength" "[I", .fieldLink RX1 21 "SharedShadow$Land" "needs" "[I", .fieldLink RX1 24 "SharedShadow$Land" "partner" "[I", .fieldLink RX1 27 "SharedShadow$Land" "spots" "[I", .fieldLink RX1 30 "SharedShadow$Land" "people" "I", .fieldLink RX1 35 "SharedShadow$Land" "lit" "I", .fieldLink RX1 38 "SharedShadow$Land" "hour" "I", .fieldLink RX1 41 "SharedShadow$Land" "wereMet" "I", .fieldLink RX1 44 "SharedShadow$Land" "wereMissed" "I", .fieldLink RX1 47 "SharedShadow$Land" "drawn" "I"] ++ wsX10)
def wsX1_isFull : List Cond := .code yX1_isFull cX1_isFull 1 (some .boolean) :: ([.fieldLink RX1 30 "SharedShadow$Land" "people" "I"] ++ wsX10)
def wsX1_everybody : List Cond := .code yX1_everybody cX1_everybody 1 (some .int) :: ([.fieldLink RX1 30 "SharedShadow$Land" "people" "I"] ++ wsX10)
def wsX1_add : List Cond := .code yX1_add cX1_add 2 (some .int) :: ([.fieldLink RX1 9 "SharedShadow$Land" "kind" "[I", .fieldLink RX1 30 "SharedShadow$Land" "people" "I", .fieldLink RX1 15 "SharedShadow$Land" "sun" "[I", .fieldLink RX1 18 "SharedShadow$Land" "strength" "[I", .fieldLink RX1 21 "SharedShadow$Land" "needs" "[I", .fieldLink RX1 24 "SharedShadow$Land" "partner" "[I", .methodLink RX1 60 yX1_isFull, .instanceMethod yX1_isFull, .selects RX1 yX1_isFull yX1_isFull, .initialized RX1, .code yX1_isFull cX1_isFull 1 (some .boolean)] ++ wsX10)
def wsX1_separate : List Cond := .code yX1_separate cX1_separate 2 none :: ([.fieldLink RX1 24 "SharedShadow$Land" "partner" "[I", .methodLink RX1 56 yX1_isPerson, .instanceMethod yX1_isPerson, .selects RX1 yX1_isPerson yX1_isPerson, .initialized RX1, .code yX1_isPerson cX1_isPerson 2 (some .boolean), .fieldLink RX1 30 "SharedShadow$Land" "people" "I"] ++ wsX10)
def wsX1_join : List Cond := .code yX1_join cX1_join 3 none :: ([.fieldLink RX1 24 "SharedShadow$Land" "partner" "[I", .methodLink RX1 64 yX1_areTwo, .instanceMethod yX1_areTwo, .selects RX1 yX1_areTwo yX1_areTwo, .initialized RX1, .code yX1_areTwo cX1_areTwo 3 (some .boolean), .methodLink RX1 56 yX1_isPerson, .instanceMethod yX1_isPerson, .selects RX1 yX1_isPerson yX1_isPerson, .code yX1_isPerson cX1_isPerson 2 (some .boolean), .fieldLink RX1 30 "SharedShadow$Land" "people" "I", .methodLink RX1 68 yX1_separate, .instanceMethod yX1_separate, .selects RX1 yX1_separate yX1_separate, .code yX1_separate cX1_separate 2 none] ++ wsX10)
def wsX1_isOfKind : List Cond := .code yX1_isOfKind cX1_isOfKind 5 (some .boolean) :: ([.fieldLink RX1 9 "SharedShadow$Land" "kind" "[I", .fieldLink RX1 75 "SharedShadow$Land" "UNDER" "[I", .methodLink RX1 56 yX1_isPerson, .instanceMethod yX1_isPerson, .selects RX1 yX1_isPerson yX1_isPerson, .initialized RX1, .code yX1_isPerson cX1_isPerson 2 (some .boolean), .fieldLink RX1 30 "SharedShadow$Land" "people" "I", .static yX7_isWithin, .initialized RX7, .code yX7_isWithin cX7_isWithin 2 (some .boolean)] ++ wsX10)
def wsX1_claimOf : List Cond := .code yX1_claimOf cX1_claimOf 5 (some .int) :: ([.fieldLink RX1 30 "SharedShadow$Land" "people" "I", .fieldLink RX1 15 "SharedShadow$Land" "sun" "[I", .fieldLink RX1 9 "SharedShadow$Land" "kind" "[I", .fieldLink RX1 18 "SharedShadow$Land" "strength" "[I"] ++ wsX10)
def wsX1_stronger : List Cond := .code yX1_stronger cX1_stronger 6 (some .int) :: ([.methodLink RX1 78 Lib.Math.min.name, .static Lib.Math.min.name, .initialized "java/lang/Math", .code Lib.Math.min.name Lib.Math.min.code 2 (some .int), .methodLink RX1 84 Lib.Math.max.name, .static Lib.Math.max.name, .code Lib.Math.max.name Lib.Math.max.code 2 (some .int), .methodLink RX1 87 yX1_claimOf, .instanceMethod yX1_claimOf, .selects RX1 yX1_claimOf yX1_claimOf, .initialized RX1, .code yX1_claimOf cX1_claimOf 5 (some .int), .fieldLink RX1 30 "SharedShadow$Land" "people" "I", .fieldLink RX1 15 "SharedShadow$Land" "sun" "[I", .fieldLink RX1 9 "SharedShadow$Land" "kind" "[I", .fieldLink RX1 18 "SharedShadow$Land" "strength" "[I"] ++ wsX10)
def wsX1_havers_r1 : List Cond := [Cond.fieldLink RX1 38 "SharedShadow$Land" "hour" "I", Cond.fieldLink RX1 35 "SharedShadow$Land" "lit" "I", Cond.fieldLink RX1 30 "SharedShadow$Land" "people" "I", Cond.fieldLink RX1 24 "SharedShadow$Land" "partner" "[I", Cond.static yX7_bit, Cond.initialized RX7, Cond.code yX7_bit cX7_bit 2 (some .int), Cond.methodLink RX1 93 yX1_stronger, Cond.instanceMethod yX1_stronger, Cond.selects RX1 yX1_stronger yX1_stronger, Cond.initialized RX1, Cond.code yX1_stronger cX1_stronger 6 (some .int), Cond.methodLink RX1 78 Lib.Math.min.name, Cond.static Lib.Math.min.name, Cond.initialized "java/lang/Math", Cond.code Lib.Math.min.name Lib.Math.min.code 2 (some .int), Cond.methodLink RX1 84 Lib.Math.max.name, Cond.static Lib.Math.max.name, Cond.code Lib.Math.max.name Lib.Math.max.code 2 (some .int), Cond.methodLink RX1 87 yX1_claimOf, Cond.instanceMethod yX1_claimOf, Cond.selects RX1 yX1_claimOf yX1_claimOf, Cond.code yX1_claimOf cX1_claimOf 5 (some .int), Cond.fieldLink RX1 15 "SharedShadow$Land" "sun" "[I"]
def wsX1_havers_r2 : List Cond := [Cond.fieldLink RX1 9 "SharedShadow$Land" "kind" "[I", Cond.fieldLink RX1 18 "SharedShadow$Land" "strength" "[I"]
def wsX1_havers : List Cond := .code yX1_havers cX1_havers 3 (some .int) :: ((wsX1_havers_r1 ++ wsX1_havers_r2) ++ wsX10)
def wsX1_tally : List Cond := .code yX1_tally cX1_tally 2 none :: ([.fieldLink RX1 41 "SharedShadow$Land" "wereMet" "I", .fieldLink RX1 44 "SharedShadow$Land" "wereMissed" "I"] ++ wsX10)
def wsX1_passHour : List Cond := .code yX1_passHour cX1_passHour 5 none :: ([.fieldLink RX1 35 "SharedShadow$Land" "lit" "I", .fieldLink RX1 38 "SharedShadow$Land" "hour" "I", .fieldLink RX1 30 "SharedShadow$Land" "people" "I", .fieldLink RX1 21 "SharedShadow$Land" "needs" "[I", .fieldLink RX1 15 "SharedShadow$Land" "sun" "[I", .methodLink RX1 84 Lib.Math.max.name, .static Lib.Math.max.name, .initialized "java/lang/Math", .code Lib.Math.max.name Lib.Math.max.code 2 (some .int), .methodLink RX1 78 Lib.Math.min.name, .static Lib.Math.min.name, .code Lib.Math.min.name Lib.Math.min.code 2 (some .int), .static yX7_bit, .initialized RX7, .code yX7_bit cX7_bit 2 (some .int), .methodLink RX1 104 yX1_tally, .instanceMethod yX1_tally, .selects RX1 yX1_tally yX1_tally, .initialized RX1, .code yX1_tally cX1_tally 2 none, .fieldLink RX1 41 "SharedShadow$Land" "wereMet" "I", .fieldLink RX1 44 "SharedShadow$Land" "wereMissed" "I"] ++ wsX10)
def wsX1_passHours_r1 : List Cond := [Cond.fieldLink RX1 38 "SharedShadow$Land" "hour" "I", Cond.methodLink RX1 97 yX1_havers, Cond.instanceMethod yX1_havers, Cond.selects RX1 yX1_havers yX1_havers, Cond.initialized RX1, Cond.code yX1_havers cX1_havers 3 (some .int), Cond.fieldLink RX1 35 "SharedShadow$Land" "lit" "I", Cond.fieldLink RX1 30 "SharedShadow$Land" "people" "I", Cond.fieldLink RX1 24 "SharedShadow$Land" "partner" "[I", Cond.static yX7_bit, Cond.initialized RX7, Cond.code yX7_bit cX7_bit 2 (some .int), Cond.methodLink RX1 93 yX1_stronger, Cond.instanceMethod yX1_stronger, Cond.selects RX1 yX1_stronger yX1_stronger, Cond.code yX1_stronger cX1_stronger 6 (some .int), Cond.methodLink RX1 78 Lib.Math.min.name, Cond.static Lib.Math.min.name, Cond.initialized "java/lang/Math", Cond.code Lib.Math.min.name Lib.Math.min.code 2 (some .int), Cond.methodLink RX1 84 Lib.Math.max.name, Cond.static Lib.Math.max.name, Cond.code Lib.Math.max.name Lib.Math.max.code 2 (some .int), Cond.methodLink RX1 87 yX1_claimOf]
def wsX1_passHours_r2 : List Cond := [Cond.instanceMethod yX1_claimOf, Cond.selects RX1 yX1_claimOf yX1_claimOf, Cond.code yX1_claimOf cX1_claimOf 5 (some .int), Cond.fieldLink RX1 15 "SharedShadow$Land" "sun" "[I", Cond.fieldLink RX1 9 "SharedShadow$Land" "kind" "[I", Cond.fieldLink RX1 18 "SharedShadow$Land" "strength" "[I", Cond.methodLink RX1 101 yX1_passHour, Cond.instanceMethod yX1_passHour, Cond.selects RX1 yX1_passHour yX1_passHour, Cond.code yX1_passHour cX1_passHour 5 none, Cond.fieldLink RX1 21 "SharedShadow$Land" "needs" "[I", Cond.methodLink RX1 104 yX1_tally, Cond.instanceMethod yX1_tally, Cond.selects RX1 yX1_tally yX1_tally, Cond.code yX1_tally cX1_tally 2 none, Cond.fieldLink RX1 41 "SharedShadow$Land" "wereMet" "I", Cond.fieldLink RX1 44 "SharedShadow$Land" "wereMissed" "I"]
def wsX1_passHours : List Cond := .code yX1_passHours cX1_passHours 3 none :: ((wsX1_passHours_r1 ++ wsX1_passHours_r2) ++ wsX10)
def wsX1_draw : List Cond := .code yX1_draw cX1_draw 1 (some .int) :: ([.fieldLink RX1 47 "SharedShadow$Land" "drawn" "I", .constant RX1 108 (1103515245)] ++ wsX10)
def wsX1_countMated : List Cond := .code yX1_countMated cX1_countMated 3 (some .int) :: ([.fieldLink RX1 30 "SharedShadow$Land" "people" "I", .fieldLink RX1 24 "SharedShadow$Land" "partner" "[I"] ++ wsX10)
def wsX1_sunOfAll : List Cond := .code yX1_sunOfAll cX1_sunOfAll 3 (some .int) :: ([.fieldLink RX1 30 "SharedShadow$Land" "people" "I", .fieldLink RX1 15 "SharedShadow$Land" "sun" "[I"] ++ wsX10)
def wsX1_countHeld : List Cond := .code yX1_countHeld cX1_countHeld 6 (some .int) :: ([.fieldLink RX1 27 "SharedShadow$Land" "spots" "[I"] ++ wsX10)
def wsX2_init : List Cond := .code yX2_init cX2_init 1 none :: ([.methodLink RX2 3 objectInit, .instanceMethod objectInit, .code objectInit ⟨#[0xb1]⟩ 1 none, .arrayClass .int, .fieldLink RX2 9 "SharedShadow$Pairings" "values" "[I", .fieldLink RX2 15 "SharedShadow$Pairings" "best" "[I", .fieldLink RX2 18 "SharedShadow$Pairings" "number" "[I"] ++ wsX20)
def wsX2_value : List Cond := .code yX2_value cX2_value 4 none :: ([.fieldLink RX2 9 "SharedShadow$Pairings" "values" "[I", .static yX7_isWithin, .initialized RX7, .code yX7_isWithin cX7_isWithin 2 (some .boolean)] ++ wsX20)
def wsX2_valueOf : List Cond := .code yX2_valueOf cX2_valueOf 3 (some .int) :: ([.fieldLink RX2 9 "SharedShadow$Pairings" "values" "[I", .methodLink RX2 25 Lib.Math.min.name, .static Lib.Math.min.name, .initialized "java/lang/Math", .code Lib.Math.min.name Lib.Math.min.code 2 (some .int), .methodLink RX2 31 Lib.Math.max.name, .static Lib.Math.max.name, .code Lib.Math.max.name Lib.Math.max.code 2 (some .int)] ++ wsX20)
def wsX2_leastOf : List Cond := .code yX2_leastOf cX2_leastOf 2 (some .int) :: ([.static yX7_bit, .initialized RX7, .code yX7_bit cX7_bit 2 (some .int)])
def wsX2_without : List Cond := .code yX2_without cX2_without 3 (some .int) :: ([])
def wsX2_worthWith_r1 : List Cond := [Cond.fieldLink RX2 15 "SharedShadow$Pairings" "best" "[I", Cond.static yX7_bit, Cond.initialized RX7, Cond.code yX7_bit cX7_bit 2 (some .int), Cond.methodLink RX2 52 yJ6_bitCount_0f7a4, Cond.static yJ6_bitCount_0f7a4, Cond.initialized RJ6, Cond.code yJ6_bitCount_0f7a4 cJ6_bitCount_0f7a4 1 (some .int), Cond.constant RJ6 265 (1431655765), Cond.constant RJ6 266 (858993459), Cond.constant RJ6 267 (252645135), Cond.methodLink RX2 57 yX2_valueOf, Cond.instanceMethod yX2_valueOf, Cond.selects RX2 yX2_valueOf yX2_valueOf, Cond.initialized RX2, Cond.code yX2_valueOf cX2_valueOf 3 (some .int), Cond.fieldLink RX2 9 "SharedShadow$Pairings" "values" "[I", Cond.methodLink RX2 25 Lib.Math.min.name, Cond.static Lib.Math.min.name, Cond.initialized "java/lang/Math", Cond.code Lib.Math.min.name Lib.Math.min.code 2 (some .int), Cond.methodLink RX2 31 Lib.Math.max.name, Cond.static Lib.Math.max.name, Cond.code Lib.Math.max.name Lib.Math.max.code 2 (some .int)]
def wsX2_worthWith_r2 : List Cond := [Cond.methodLink RX2 46 yX2_without, Cond.static yX2_without, Cond.code yX2_without cX2_without 3 (some .int)]
def wsX2_worthWith : List Cond := .code yX2_worthWith cX2_worthWith 5 (some .int) :: ((wsX2_worthWith_r1 ++ wsX2_worthWith_r2) ++ wsX20)
def wsX2_weighSet_r1 : List Cond := [Cond.fieldLink RX2 15 "SharedShadow$Pairings" "best" "[I", Cond.fieldLink RX2 18 "SharedShadow$Pairings" "number" "[I", Cond.methodLink RX2 38 yX2_leastOf, Cond.static yX2_leastOf, Cond.initialized RX2, Cond.code yX2_leastOf cX2_leastOf 2 (some .int), Cond.static yX7_bit, Cond.initialized RX7, Cond.code yX7_bit cX7_bit 2 (some .int), Cond.methodLink RX2 42 yX2_worthWith, Cond.instanceMethod yX2_worthWith, Cond.selects RX2 yX2_worthWith yX2_worthWith, Cond.code yX2_worthWith cX2_worthWith 5 (some .int), Cond.methodLink RX2 52 yJ6_bitCount_0f7a4, Cond.static yJ6_bitCount_0f7a4, Cond.initialized RJ6, Cond.code yJ6_bitCount_0f7a4 cJ6_bitCount_0f7a4 1 (some .int), Cond.constant RJ6 265 (1431655765), Cond.constant RJ6 266 (858993459), Cond.constant RJ6 267 (252645135), Cond.methodLink RX2 57 yX2_valueOf, Cond.instanceMethod yX2_valueOf, Cond.selects RX2 yX2_valueOf yX2_valueOf, Cond.code yX2_valueOf cX2_valueOf 3 (some .int)]
def wsX2_weighSet_r2 : List Cond := [Cond.fieldLink RX2 9 "SharedShadow$Pairings" "values" "[I", Cond.methodLink RX2 25 Lib.Math.min.name, Cond.static Lib.Math.min.name, Cond.initialized "java/lang/Math", Cond.code Lib.Math.min.name Lib.Math.min.code 2 (some .int), Cond.methodLink RX2 31 Lib.Math.max.name, Cond.static Lib.Math.max.name, Cond.code Lib.Math.max.name Lib.Math.max.code 2 (some .int), Cond.methodLink RX2 46 yX2_without, Cond.static yX2_without, Cond.code yX2_without cX2_without 3 (some .int)]
def wsX2_weighSet : List Cond := .code yX2_weighSet cX2_weighSet 5 none :: ((wsX2_weighSet_r1 ++ wsX2_weighSet_r2) ++ wsX20)
def wsX2_weigh_r1 : List Cond := [Cond.fieldLink RX2 15 "SharedShadow$Pairings" "best" "[I", Cond.fieldLink RX2 18 "SharedShadow$Pairings" "number" "[I", Cond.methodLink RX2 34 yX2_weighSet, Cond.instanceMethod yX2_weighSet, Cond.selects RX2 yX2_weighSet yX2_weighSet, Cond.initialized RX2, Cond.code yX2_weighSet cX2_weighSet 5 none, Cond.methodLink RX2 38 yX2_leastOf, Cond.static yX2_leastOf, Cond.code yX2_leastOf cX2_leastOf 2 (some .int), Cond.static yX7_bit, Cond.initialized RX7, Cond.code yX7_bit cX7_bit 2 (some .int), Cond.methodLink RX2 42 yX2_worthWith, Cond.instanceMethod yX2_worthWith, Cond.selects RX2 yX2_worthWith yX2_worthWith, Cond.code yX2_worthWith cX2_worthWith 5 (some .int), Cond.methodLink RX2 52 yJ6_bitCount_0f7a4, Cond.static yJ6_bitCount_0f7a4, Cond.initialized RJ6, Cond.code yJ6_bitCount_0f7a4 cJ6_bitCount_0f7a4 1 (some .int), Cond.constant RJ6 265 (1431655765), Cond.constant RJ6 266 (858993459), Cond.constant RJ6 267 (252645135)]
def wsX2_weigh_r2 : List Cond := [Cond.methodLink RX2 57 yX2_valueOf, Cond.instanceMethod yX2_valueOf, Cond.selects RX2 yX2_valueOf yX2_valueOf, Cond.code yX2_valueOf cX2_valueOf 3 (some .int), Cond.fieldLink RX2 9 "SharedShadow$Pairings" "values" "[I", Cond.methodLink RX2 25 Lib.Math.min.name, Cond.static Lib.Math.min.name, Cond.initialized "java/lang/Math", Cond.code Lib.Math.min.name Lib.Math.min.code 2 (some .int), Cond.methodLink RX2 31 Lib.Math.max.name, Cond.static Lib.Math.max.name, Cond.code Lib.Math.max.name Lib.Math.max.code 2 (some .int), Cond.methodLink RX2 46 yX2_without, Cond.static yX2_without, Cond.code yX2_without cX2_without 3 (some .int)]
def wsX2_weigh : List Cond := .code yX2_weigh cX2_weigh 3 none :: ((wsX2_weigh_r1 ++ wsX2_weigh_r2) ++ wsX20)
def wsX2_bestOf : List Cond := .code yX2_bestOf cX2_bestOf 2 (some .int) :: ([.fieldLink RX2 15 "SharedShadow$Pairings" "best" "[I", .static yX7_isWithin, .initialized RX7, .code yX7_isWithin cX7_isWithin 2 (some .boolean)] ++ wsX20)
def wsX2_waysOf : List Cond := .code yX2_waysOf cX2_waysOf 2 (some .int) :: ([.fieldLink RX2 18 "SharedShadow$Pairings" "number" "[I", .static yX7_isWithin, .initialized RX7, .code yX7_isWithin cX7_isWithin 2 (some .boolean)] ++ wsX20)
def wsX2_firstBest_r1 : List Cond := [Cond.fieldLink RX2 15 "SharedShadow$Pairings" "best" "[I", Cond.methodLink RX2 42 yX2_worthWith, Cond.instanceMethod yX2_worthWith, Cond.selects RX2 yX2_worthWith yX2_worthWith, Cond.initialized RX2, Cond.code yX2_worthWith cX2_worthWith 5 (some .int), Cond.static yX7_bit, Cond.initialized RX7, Cond.code yX7_bit cX7_bit 2 (some .int), Cond.methodLink RX2 52 yJ6_bitCount_0f7a4, Cond.static yJ6_bitCount_0f7a4, Cond.initialized RJ6, Cond.code yJ6_bitCount_0f7a4 cJ6_bitCount_0f7a4 1 (some .int), Cond.constant RJ6 265 (1431655765), Cond.constant RJ6 266 (858993459), Cond.constant RJ6 267 (252645135), Cond.methodLink RX2 57 yX2_valueOf, Cond.instanceMethod yX2_valueOf, Cond.selects RX2 yX2_valueOf yX2_valueOf, Cond.code yX2_valueOf cX2_valueOf 3 (some .int), Cond.fieldLink RX2 9 "SharedShadow$Pairings" "values" "[I", Cond.methodLink RX2 25 Lib.Math.min.name, Cond.static Lib.Math.min.name, Cond.initialized "java/lang/Math"]
def wsX2_firstBest_r2 : List Cond := [Cond.code Lib.Math.min.name Lib.Math.min.code 2 (some .int), Cond.methodLink RX2 31 Lib.Math.max.name, Cond.static Lib.Math.max.name, Cond.code Lib.Math.max.name Lib.Math.max.code 2 (some .int), Cond.methodLink RX2 46 yX2_without, Cond.static yX2_without, Cond.code yX2_without cX2_without 3 (some .int)]
def wsX2_firstBest : List Cond := .code yX2_firstBest cX2_firstBest 4 (some .int) :: ((wsX2_firstBest_r1 ++ wsX2_firstBest_r2) ++ wsX20)
def wsX2_firstMateOf_r1 : List Cond := [Cond.fieldLink RX2 15 "SharedShadow$Pairings" "best" "[I", Cond.methodLink RX2 38 yX2_leastOf, Cond.static yX2_leastOf, Cond.initialized RX2, Cond.code yX2_leastOf cX2_leastOf 2 (some .int), Cond.static yX7_bit, Cond.initialized RX7, Cond.code yX7_bit cX7_bit 2 (some .int), Cond.methodLink RX2 60 yX2_firstBest, Cond.instanceMethod yX2_firstBest, Cond.selects RX2 yX2_firstBest yX2_firstBest, Cond.code yX2_firstBest cX2_firstBest 4 (some .int), Cond.methodLink RX2 42 yX2_worthWith, Cond.instanceMethod yX2_worthWith, Cond.selects RX2 yX2_worthWith yX2_worthWith, Cond.code yX2_worthWith cX2_worthWith 5 (some .int), Cond.methodLink RX2 52 yJ6_bitCount_0f7a4, Cond.static yJ6_bitCount_0f7a4, Cond.initialized RJ6, Cond.code yJ6_bitCount_0f7a4 cJ6_bitCount_0f7a4 1 (some .int), Cond.constant RJ6 265 (1431655765), Cond.constant RJ6 266 (858993459), Cond.constant RJ6 267 (252645135), Cond.methodLink RX2 57 yX2_valueOf]
def wsX2_firstMateOf_r2 : List Cond := [Cond.instanceMethod yX2_valueOf, Cond.selects RX2 yX2_valueOf yX2_valueOf, Cond.code yX2_valueOf cX2_valueOf 3 (some .int), Cond.fieldLink RX2 9 "SharedShadow$Pairings" "values" "[I", Cond.methodLink RX2 25 Lib.Math.min.name, Cond.static Lib.Math.min.name, Cond.initialized "java/lang/Math", Cond.code Lib.Math.min.name Lib.Math.min.code 2 (some .int), Cond.methodLink RX2 31 Lib.Math.max.name, Cond.static Lib.Math.max.name, Cond.code Lib.Math.max.name Lib.Math.max.code 2 (some .int), Cond.methodLink RX2 46 yX2_without, Cond.static yX2_without, Cond.code yX2_without cX2_without 3 (some .int)]
def wsX2_firstMateOf : List Cond := .code yX2_firstMateOf cX2_firstMateOf 7 (some .int) :: ((wsX2_firstMateOf_r1 ++ wsX2_firstMateOf_r2) ++ wsX20)
def wsX2_matesOf_r1 : List Cond := [Cond.fieldLink RX2 15 "SharedShadow$Pairings" "best" "[I", Cond.static yX7_isWithin, Cond.initialized RX7, Cond.code yX7_isWithin cX7_isWithin 2 (some .boolean), Cond.methodLink RX2 42 yX2_worthWith, Cond.instanceMethod yX2_worthWith, Cond.selects RX2 yX2_worthWith yX2_worthWith, Cond.initialized RX2, Cond.code yX2_worthWith cX2_worthWith 5 (some .int), Cond.static yX7_bit, Cond.code yX7_bit cX7_bit 2 (some .int), Cond.methodLink RX2 52 yJ6_bitCount_0f7a4, Cond.static yJ6_bitCount_0f7a4, Cond.initialized RJ6, Cond.code yJ6_bitCount_0f7a4 cJ6_bitCount_0f7a4 1 (some .int), Cond.constant RJ6 265 (1431655765), Cond.constant RJ6 266 (858993459), Cond.constant RJ6 267 (252645135), Cond.methodLink RX2 57 yX2_valueOf, Cond.instanceMethod yX2_valueOf, Cond.selects RX2 yX2_valueOf yX2_valueOf, Cond.code yX2_valueOf cX2_valueOf 3 (some .int), Cond.fieldLink RX2 9 "SharedShadow$Pairings" "values" "[I", Cond.methodLink RX2 25 Lib.Math.min.name]
def wsX2_matesOf_r2 : List Cond := [Cond.static Lib.Math.min.name, Cond.initialized "java/lang/Math", Cond.code Lib.Math.min.name Lib.Math.min.code 2 (some .int), Cond.methodLink RX2 31 Lib.Math.max.name, Cond.static Lib.Math.max.name, Cond.code Lib.Math.max.name Lib.Math.max.code 2 (some .int), Cond.methodLink RX2 46 yX2_without, Cond.static yX2_without, Cond.code yX2_without cX2_without 3 (some .int)]
def wsX2_matesOf : List Cond := .code yX2_matesOf cX2_matesOf 6 (some .int) :: ((wsX2_matesOf_r1 ++ wsX2_matesOf_r2) ++ wsX20)
def wsX6_init : List Cond := .code yX6_init cX6_init 1 none :: ([.methodLink RX6 1 objectInit, .instanceMethod objectInit, .code objectInit ⟨#[0xb1]⟩ 1 none, .arrayClass .int, .fieldLink RX6 9 "SharedShadow$Tape" "bytes" "[I", .fieldLink RX6 13 "SharedShadow$Tape" "length" "I"] ++ wsX60)
def wsX3_init_r1 : List Cond := [Cond.methodLink RX3 5 objectInit, Cond.instanceMethod objectInit, Cond.code objectInit ⟨#[0xb1]⟩ 1 none, Cond.classLink RX3 1 RX6, Cond.instantiable RX6 2, Cond.initialized RX6, Cond.fieldLink RX3 12 "SharedShadow$Reader" "tape" "LSharedShadow$Tape;", Cond.classLink RX3 18 RX1, Cond.instantiable RX1 12, Cond.initialized RX1, Cond.fieldLink RX3 21 "SharedShadow$Reader" "draft" "LSharedShadow$Land;", Cond.arrayClass .int, Cond.fieldLink RX3 25 "SharedShadow$Reader" "types" "[I", Cond.fieldLink RX3 29 "SharedShadow$Reader" "places" "[I", Cond.fieldLink RX3 32 "SharedShadow$Reader" "ends" "[I", Cond.fieldLink RX3 35 "SharedShadow$Reader" "values" "[I", Cond.fieldLink RX3 38 "SharedShadow$Reader" "tokens" "I", Cond.fieldLink RX3 42 "SharedShadow$Reader" "next" "I", Cond.instanceMethod yX6_init, Cond.code yX6_init cX6_init 1 none, Cond.methodLink RX6 1 objectInit, Cond.fieldLink RX6 9 "SharedShadow$Tape" "bytes" "[I", Cond.fieldLink RX6 13 "SharedShadow$Tape" "length" "I", Cond.methodLink RX3 20 yX1_init]
def wsX3_init_r2 : List Cond := [Cond.instanceMethod yX1_init, Cond.code yX1_init cX1_init 2 none, Cond.methodLink RX1 3 objectInit, Cond.fieldLink RX1 9 "SharedShadow$Land" "kind" "[I", Cond.fieldLink RX1 15 "SharedShadow$Land" "sun" "[I", Cond.fieldLink RX1 18 "SharedShadow$Land" "strength" "[I", Cond.fieldLink RX1 21 "SharedShadow$Land" "needs" "[I", Cond.fieldLink RX1 24 "SharedShadow$Land" "partner" "[I", Cond.fieldLink RX1 27 "SharedShadow$Land" "spots" "[I", Cond.fieldLink RX1 30 "SharedShadow$Land" "people" "I", Cond.constant RX1 34 (65535), Cond.fieldLink RX1 35 "SharedShadow$Land" "lit" "I", Cond.fieldLink RX1 38 "SharedShadow$Land" "hour" "I", Cond.fieldLink RX1 41 "SharedShadow$Land" "wereMet" "I", Cond.fieldLink RX1 44 "SharedShadow$Land" "wereMissed" "I", Cond.fieldLink RX1 47 "SharedShadow$Land" "drawn" "I"]
def wsX3_init : List Cond := .code yX3_init cX3_init 1 none :: ((wsX3_init_r1 ++ wsX3_init_r2) ++ wsX60 ++ wsX30 ++ wsX10)
def wsX6_byteAt : List Cond := .code yX6_byteAt cX6_byteAt 2 (some .int) :: ([.fieldLink RX6 13 "SharedShadow$Tape" "length" "I", .fieldLink RX6 9 "SharedShadow$Tape" "bytes" "[I"] ++ wsX60)
def wsX3_typeOf : List Cond := .code yX3_typeOf cX3_typeOf 1 (some .int) :: ([])
def wsX3_beginToken : List Cond := .code yX3_beginToken cX3_beginToken 3 none :: ([.fieldLink RX3 38 "SharedShadow$Reader" "tokens" "I", .fieldLink RX3 25 "SharedShadow$Reader" "types" "[I", .fieldLink RX3 29 "SharedShadow$Reader" "places" "[I", .fieldLink RX3 35 "SharedShadow$Reader" "values" "[I"] ++ wsX30)
def wsX3_lengthenToken : List Cond := .code yX3_lengthenToken cX3_lengthenToken 3 none :: ([.fieldLink RX3 38 "SharedShadow$Reader" "tokens" "I", .fieldLink RX3 32 "SharedShadow$Reader" "ends" "[I", .fieldLink RX3 35 "SharedShadow$Reader" "values" "[I", .fieldLink RX3 12 "SharedShadow$Reader" "tape" "LSharedShadow$Tape;", .constant RX3 81 (100000), .methodLink RX3 82 Lib.Math.min.name, .static Lib.Math.min.name, .initialized "java/lang/Math", .code Lib.Math.min.name Lib.Math.min.code 2 (some .int), .methodLink RX3 66 yX6_byteAt, .instanceMethod yX6_byteAt, .selects RX6 yX6_byteAt yX6_byteAt, .initialized RX6, .code yX6_byteAt cX6_byteAt 2 (some .int), .fieldLink RX6 13 "SharedShadow$Tape" "length" "I", .fieldLink RX6 9 "SharedShadow$Tape" "bytes" "[I"] ++ wsX30 ++ wsX60)
def wsX3_split_r1 : List Cond := [Cond.fieldLink RX3 38 "SharedShadow$Reader" "tokens" "I", Cond.fieldLink RX3 42 "SharedShadow$Reader" "next" "I", Cond.fieldLink RX3 12 "SharedShadow$Reader" "tape" "LSharedShadow$Tape;", Cond.fieldLink RX3 63 "SharedShadow$Tape" "length" "I", Cond.methodLink RX3 66 yX6_byteAt, Cond.instanceMethod yX6_byteAt, Cond.selects RX6 yX6_byteAt yX6_byteAt, Cond.initialized RX6, Cond.code yX6_byteAt cX6_byteAt 2 (some .int), Cond.fieldLink RX6 13 "SharedShadow$Tape" "length" "I", Cond.fieldLink RX6 9 "SharedShadow$Tape" "bytes" "[I", Cond.methodLink RX3 70 yX3_typeOf, Cond.static yX3_typeOf, Cond.initialized RX3, Cond.code yX3_typeOf cX3_typeOf 1 (some .int), Cond.methodLink RX3 73 yX3_beginToken, Cond.instanceMethod yX3_beginToken, Cond.selects RX3 yX3_beginToken yX3_beginToken, Cond.code yX3_beginToken cX3_beginToken 3 none, Cond.fieldLink RX3 25 "SharedShadow$Reader" "types" "[I", Cond.fieldLink RX3 29 "SharedShadow$Reader" "places" "[I", Cond.fieldLink RX3 35 "SharedShadow$Reader" "values" "[I", Cond.methodLink RX3 77 yX3_lengthenToken, Cond.instanceMethod yX3_lengthenToken]
def wsX3_split_r2 : List Cond := [Cond.selects RX3 yX3_lengthenToken yX3_lengthenToken, Cond.code yX3_lengthenToken cX3_lengthenToken 3 none, Cond.fieldLink RX3 32 "SharedShadow$Reader" "ends" "[I", Cond.constant RX3 81 (100000), Cond.methodLink RX3 82 Lib.Math.min.name, Cond.static Lib.Math.min.name, Cond.initialized "java/lang/Math", Cond.code Lib.Math.min.name Lib.Math.min.code 2 (some .int)]
def wsX3_split : List Cond := .code yX3_split cX3_split 4 none :: ((wsX3_split_r1 ++ wsX3_split_r2) ++ wsX30 ++ wsX60)
def wsX3_isNext : List Cond := .code yX3_isNext cX3_isNext 2 (some .boolean) :: ([.fieldLink RX3 25 "SharedShadow$Reader" "types" "[I", .fieldLink RX3 42 "SharedShadow$Reader" "next" "I"] ++ wsX30)
def wsJ0_coder_7d493 : List Cond := .code yJ0_coder_7d493 cJ0_coder_7d493 1 (some .byte) :: ([.fieldLink RJ0 38 "java/lang/String" "COMPACT_STRINGS" "Z", .fieldLink RJ0 15 "java/lang/String" "coder" "B"])
def wsJ0_length_8abf5 : List Cond := .code yJ0_length_8abf5 cJ0_length_8abf5 1 (some .int) :: ([.fieldLink RJ0 9 "java/lang/String" "value" "[B", .methodLink RJ0 335 yJ0_coder_7d493, .instanceMethod yJ0_coder_7d493, .selects RJ0 yJ0_coder_7d493 yJ0_coder_7d493, .initialized RJ0, .code yJ0_coder_7d493 cJ0_coder_7d493 1 (some .byte), .fieldLink RJ0 38 "java/lang/String" "COMPACT_STRINGS" "Z", .fieldLink RJ0 15 "java/lang/String" "coder" "B"])
def wsJ0_isLatin1_aae02 : List Cond := .code yJ0_isLatin1_aae02 cJ0_isLatin1_aae02 1 (some .boolean) :: ([.fieldLink RJ0 38 "java/lang/String" "COMPACT_STRINGS" "Z", .fieldLink RJ0 15 "java/lang/String" "coder" "B"])
def wsJ3_checkIndex_8e157 : List Cond := .code yJ3_checkIndex_8e157 cJ3_checkIndex_8e157 3 (some .int) :: ([])
def wsJ0_checkIndex_df160 : List Cond := .code yJ0_checkIndex_df160 cJ0_checkIndex_df160 2 none :: ([.fieldLink RJ0 1053 "jdk/internal/util/Preconditions" "SIOOBE_FORMATTER" "Ljava/util/function/BiFunction;", .methodLink RJ0 1059 yJ3_checkIndex_8e157, .static yJ3_checkIndex_8e157, .initialized RJ3, .code yJ3_checkIndex_8e157 cJ3_checkIndex_8e157 3 (some .int)])
def wsJ1_charAt_3b067 : List Cond := .code yJ1_charAt_3b067 cJ1_charAt_3b067 2 (some .char) :: ([.methodLink RJ1 9 yJ0_checkIndex_df160, .static yJ0_checkIndex_df160, .initialized RJ0, .code yJ0_checkIndex_df160 cJ0_checkIndex_df160 2 none, .fieldLink RJ0 1053 "jdk/internal/util/Preconditions" "SIOOBE_FORMATTER" "Ljava/util/function/BiFunction;", .methodLink RJ0 1059 yJ3_checkIndex_8e157, .static yJ3_checkIndex_8e157, .initialized RJ3, .code yJ3_checkIndex_8e157 cJ3_checkIndex_8e157 3 (some .int)])
def wsJ2_length_9d52b : List Cond := .code yJ2_length_9d52b cJ2_length_9d52b 1 (some .int) :: ([])
def wsJ2_checkIndex_2214a : List Cond := .code yJ2_checkIndex_2214a cJ2_checkIndex_2214a 2 none :: ([.methodLink RJ2 48 yJ2_length_9d52b, .static yJ2_length_9d52b, .initialized RJ2, .code yJ2_length_9d52b cJ2_length_9d52b 1 (some .int), .methodLink RJ2 414 yJ0_checkIndex_df160, .static yJ0_checkIndex_df160, .initialized RJ0, .code yJ0_checkIndex_df160 cJ0_checkIndex_df160 2 none, .fieldLink RJ0 1053 "jdk/internal/util/Preconditions" "SIOOBE_FORMATTER" "Ljava/util/function/BiFunction;", .methodLink RJ0 1059 yJ3_checkIndex_8e157, .static yJ3_checkIndex_8e157, .initialized RJ3, .code yJ3_checkIndex_8e157 cJ3_checkIndex_8e157 3 (some .int)])
def wsJ2_getChar_3b067 : List Cond := .code yJ2_getChar_3b067 cJ2_getChar_3b067 2 (some .char) :: ([.fieldLink RJ2 44 "java/lang/StringUTF16" "$assertionsDisabled" "Z", .fieldLink RJ2 59 "java/lang/StringUTF16" "HI_BYTE_SHIFT" "I", .fieldLink RJ2 63 "java/lang/StringUTF16" "LO_BYTE_SHIFT" "I", .methodLink RJ2 48 yJ2_length_9d52b, .static yJ2_length_9d52b, .initialized RJ2, .code yJ2_length_9d52b cJ2_length_9d52b 1 (some .int)])
def wsJ2_charAt_3b067 : List Cond := .code yJ2_charAt_3b067 cJ2_charAt_3b067 2 (some .char) :: ([.methodLink RJ2 67 yJ2_checkIndex_2214a, .static yJ2_checkIndex_2214a, .initialized RJ2, .code yJ2_checkIndex_2214a cJ2_checkIndex_2214a 2 none, .methodLink RJ2 48 yJ2_length_9d52b, .static yJ2_length_9d52b, .code yJ2_length_9d52b cJ2_length_9d52b 1 (some .int), .methodLink RJ2 414 yJ0_checkIndex_df160, .static yJ0_checkIndex_df160, .initialized RJ0, .code yJ0_checkIndex_df160 cJ0_checkIndex_df160 2 none, .fieldLink RJ0 1053 "jdk/internal/util/Preconditions" "SIOOBE_FORMATTER" "Ljava/util/function/BiFunction;", .methodLink RJ0 1059 yJ3_checkIndex_8e157, .static yJ3_checkIndex_8e157, .initialized RJ3, .code yJ3_checkIndex_8e157 cJ3_checkIndex_8e157 3 (some .int), .methodLink RJ2 71 yJ2_getChar_3b067, .static yJ2_getChar_3b067, .code yJ2_getChar_3b067 cJ2_getChar_3b067 2 (some .char), .fieldLink RJ2 44 "java/lang/StringUTF16" "$assertionsDisabled" "Z", .fieldLink RJ2 59 "java/lang/StringUTF16" "HI_BYTE_SHIFT" "I", .fieldLink RJ2 63 "java/lang/StringUTF16" "LO_BYTE_SHIFT" "I"])
def wsJ0_charAt_5068e_r1 : List Cond := [Cond.fieldLink RJ0 9 "java/lang/String" "value" "[B", Cond.methodLink RJ0 492 yJ0_isLatin1_aae02, Cond.instanceMethod yJ0_isLatin1_aae02, Cond.selects RJ0 yJ0_isLatin1_aae02 yJ0_isLatin1_aae02, Cond.initialized RJ0, Cond.code yJ0_isLatin1_aae02 cJ0_isLatin1_aae02 1 (some .boolean), Cond.fieldLink RJ0 38 "java/lang/String" "COMPACT_STRINGS" "Z", Cond.fieldLink RJ0 15 "java/lang/String" "coder" "B", Cond.methodLink RJ0 495 yJ1_charAt_3b067, Cond.static yJ1_charAt_3b067, Cond.initialized RJ1, Cond.code yJ1_charAt_3b067 cJ1_charAt_3b067 2 (some .char), Cond.methodLink RJ1 9 yJ0_checkIndex_df160, Cond.static yJ0_checkIndex_df160, Cond.code yJ0_checkIndex_df160 cJ0_checkIndex_df160 2 none, Cond.fieldLink RJ0 1053 "jdk/internal/util/Preconditions" "SIOOBE_FORMATTER" "Ljava/util/function/BiFunction;", Cond.methodLink RJ0 1059 yJ3_checkIndex_8e157, Cond.static yJ3_checkIndex_8e157, Cond.initialized RJ3, Cond.code yJ3_checkIndex_8e157 cJ3_checkIndex_8e157 3 (some .int), Cond.methodLink RJ0 498 yJ2_charAt_3b067, Cond.static yJ2_charAt_3b067, Cond.initialized RJ2, Cond.code yJ2_charAt_3b067 cJ2_charAt_3b067 2 (some .char)]
def wsJ0_charAt_5068e_r2 : List Cond := [Cond.methodLink RJ2 67 yJ2_checkIndex_2214a, Cond.static yJ2_checkIndex_2214a, Cond.code yJ2_checkIndex_2214a cJ2_checkIndex_2214a 2 none, Cond.methodLink RJ2 48 yJ2_length_9d52b, Cond.static yJ2_length_9d52b, Cond.code yJ2_length_9d52b cJ2_length_9d52b 1 (some .int), Cond.methodLink RJ2 414 yJ0_checkIndex_df160, Cond.methodLink RJ2 71 yJ2_getChar_3b067, Cond.static yJ2_getChar_3b067, Cond.code yJ2_getChar_3b067 cJ2_getChar_3b067 2 (some .char), Cond.fieldLink RJ2 44 "java/lang/StringUTF16" "$assertionsDisabled" "Z", Cond.fieldLink RJ2 59 "java/lang/StringUTF16" "HI_BYTE_SHIFT" "I", Cond.fieldLink RJ2 63 "java/lang/StringUTF16" "LO_BYTE_SHIFT" "I"]
def wsJ0_charAt_5068e : List Cond := .code yJ0_charAt_5068e cJ0_charAt_5068e 2 (some .char) :: ((wsJ0_charAt_5068e_r1 ++ wsJ0_charAt_5068e_r2))
def wsX3_isWord_r1 : List Cond := [Cond.fieldLink RX3 32 "SharedShadow$Reader" "ends" "[I", Cond.fieldLink RX3 42 "SharedShadow$Reader" "next" "I", Cond.fieldLink RX3 29 "SharedShadow$Reader" "places" "[I", Cond.fieldLink RX3 12 "SharedShadow$Reader" "tape" "LSharedShadow$Tape;", Cond.methodLink RX3 56 yX3_isNext, Cond.instanceMethod yX3_isNext, Cond.selects RX3 yX3_isNext yX3_isNext, Cond.initialized RX3, Cond.code yX3_isNext cX3_isNext 2 (some .boolean), Cond.fieldLink RX3 25 "SharedShadow$Reader" "types" "[I", Cond.methodLink RX3 155 yJ0_length_8abf5, Cond.instanceMethod yJ0_length_8abf5, Cond.selects RJ0 yJ0_length_8abf5 yJ0_length_8abf5, Cond.initialized RJ0, Cond.code yJ0_length_8abf5 cJ0_length_8abf5 1 (some .int), Cond.fieldLink RJ0 9 "java/lang/String" "value" "[B", Cond.methodLink RJ0 335 yJ0_coder_7d493, Cond.instanceMethod yJ0_coder_7d493, Cond.selects RJ0 yJ0_coder_7d493 yJ0_coder_7d493, Cond.code yJ0_coder_7d493 cJ0_coder_7d493 1 (some .byte), Cond.fieldLink RJ0 38 "java/lang/String" "COMPACT_STRINGS" "Z", Cond.fieldLink RJ0 15 "java/lang/String" "coder" "B", Cond.methodLink RX3 66 yX6_byteAt, Cond.instanceMethod yX6_byteAt]
def wsX3_isWord_r2 : List Cond := [Cond.selects RX6 yX6_byteAt yX6_byteAt, Cond.initialized RX6, Cond.code yX6_byteAt cX6_byteAt 2 (some .int), Cond.fieldLink RX6 13 "SharedShadow$Tape" "length" "I", Cond.fieldLink RX6 9 "SharedShadow$Tape" "bytes" "[I", Cond.methodLink RX3 159 yJ0_charAt_5068e, Cond.instanceMethod yJ0_charAt_5068e, Cond.selects RJ0 yJ0_charAt_5068e yJ0_charAt_5068e, Cond.code yJ0_charAt_5068e cJ0_charAt_5068e 2 (some .char), Cond.methodLink RJ0 492 yJ0_isLatin1_aae02, Cond.instanceMethod yJ0_isLatin1_aae02, Cond.selects RJ0 yJ0_isLatin1_aae02 yJ0_isLatin1_aae02, Cond.code yJ0_isLatin1_aae02 cJ0_isLatin1_aae02 1 (some .boolean), Cond.methodLink RJ0 495 yJ1_charAt_3b067, Cond.static yJ1_charAt_3b067, Cond.initialized RJ1, Cond.code yJ1_charAt_3b067 cJ1_charAt_3b067 2 (some .char), Cond.methodLink RJ1 9 yJ0_checkIndex_df160, Cond.static yJ0_checkIndex_df160, Cond.code yJ0_checkIndex_df160 cJ0_checkIndex_df160 2 none, Cond.fieldLink RJ0 1053 "jdk/internal/util/Preconditions" "SIOOBE_FORMATTER" "Ljava/util/function/BiFunction;", Cond.methodLink RJ0 1059 yJ3_checkIndex_8e157, Cond.static yJ3_checkIndex_8e157, Cond.initialized RJ3]
def wsX3_isWord_r3 : List Cond := [Cond.code yJ3_checkIndex_8e157 cJ3_checkIndex_8e157 3 (some .int), Cond.methodLink RJ0 498 yJ2_charAt_3b067, Cond.static yJ2_charAt_3b067, Cond.initialized RJ2, Cond.code yJ2_charAt_3b067 cJ2_charAt_3b067 2 (some .char), Cond.methodLink RJ2 67 yJ2_checkIndex_2214a, Cond.static yJ2_checkIndex_2214a, Cond.code yJ2_checkIndex_2214a cJ2_checkIndex_2214a 2 none, Cond.methodLink RJ2 48 yJ2_length_9d52b, Cond.static yJ2_length_9d52b, Cond.code yJ2_length_9d52b cJ2_length_9d52b 1 (some .int), Cond.methodLink RJ2 414 yJ0_checkIndex_df160, Cond.methodLink RJ2 71 yJ2_getChar_3b067, Cond.static yJ2_getChar_3b067, Cond.code yJ2_getChar_3b067 cJ2_getChar_3b067 2 (some .char), Cond.fieldLink RJ2 44 "java/lang/StringUTF16" "$assertionsDisabled" "Z", Cond.fieldLink RJ2 59 "java/lang/StringUTF16" "HI_BYTE_SHIFT" "I", Cond.fieldLink RJ2 63 "java/lang/StringUTF16" "LO_BYTE_SHIFT" "I"]
def wsX3_isWord : List Cond := .code yX3_isWord cX3_isWord 3 (some .boolean) :: ((wsX3_isWord_r1 ++ (wsX3_isWord_r2 ++ wsX3_isWord_r3)) ++ wsX30 ++ wsX60)
def wsX3_kindOfWord_r1 : List Cond := [Cond.methodLink RX3 97 yX3_isWord, Cond.instanceMethod yX3_isWord, Cond.selects RX3 yX3_isWord yX3_isWord, Cond.initialized RX3, Cond.code yX3_isWord cX3_isWord 3 (some .boolean), Cond.fieldLink RX3 32 "SharedShadow$Reader" "ends" "[I", Cond.fieldLink RX3 42 "SharedShadow$Reader" "next" "I", Cond.fieldLink RX3 29 "SharedShadow$Reader" "places" "[I", Cond.fieldLink RX3 12 "SharedShadow$Reader" "tape" "LSharedShadow$Tape;", Cond.methodLink RX3 56 yX3_isNext, Cond.instanceMethod yX3_isNext, Cond.selects RX3 yX3_isNext yX3_isNext, Cond.code yX3_isNext cX3_isNext 2 (some .boolean), Cond.fieldLink RX3 25 "SharedShadow$Reader" "types" "[I", Cond.methodLink RX3 155 yJ0_length_8abf5, Cond.instanceMethod yJ0_length_8abf5, Cond.selects RJ0 yJ0_length_8abf5 yJ0_length_8abf5, Cond.initialized RJ0, Cond.code yJ0_length_8abf5 cJ0_length_8abf5 1 (some .int), Cond.fieldLink RJ0 9 "java/lang/String" "value" "[B", Cond.methodLink RJ0 335 yJ0_coder_7d493, Cond.instanceMethod yJ0_coder_7d493, Cond.selects RJ0 yJ0_coder_7d493 yJ0_coder_7d493, Cond.code yJ0_coder_7d493 cJ0_coder_7d493 1 (some .byte)]
def wsX3_kindOfWord_r2 : List Cond := [Cond.fieldLink RJ0 38 "java/lang/String" "COMPACT_STRINGS" "Z", Cond.fieldLink RJ0 15 "java/lang/String" "coder" "B", Cond.methodLink RX3 66 yX6_byteAt, Cond.instanceMethod yX6_byteAt, Cond.selects RX6 yX6_byteAt yX6_byteAt, Cond.initialized RX6, Cond.code yX6_byteAt cX6_byteAt 2 (some .int), Cond.fieldLink RX6 13 "SharedShadow$Tape" "length" "I", Cond.fieldLink RX6 9 "SharedShadow$Tape" "bytes" "[I", Cond.methodLink RX3 159 yJ0_charAt_5068e, Cond.instanceMethod yJ0_charAt_5068e, Cond.selects RJ0 yJ0_charAt_5068e yJ0_charAt_5068e, Cond.code yJ0_charAt_5068e cJ0_charAt_5068e 2 (some .char), Cond.methodLink RJ0 492 yJ0_isLatin1_aae02, Cond.instanceMethod yJ0_isLatin1_aae02, Cond.selects RJ0 yJ0_isLatin1_aae02 yJ0_isLatin1_aae02, Cond.code yJ0_isLatin1_aae02 cJ0_isLatin1_aae02 1 (some .boolean), Cond.methodLink RJ0 495 yJ1_charAt_3b067, Cond.static yJ1_charAt_3b067, Cond.initialized RJ1, Cond.code yJ1_charAt_3b067 cJ1_charAt_3b067 2 (some .char), Cond.methodLink RJ1 9 yJ0_checkIndex_df160, Cond.static yJ0_checkIndex_df160, Cond.code yJ0_checkIndex_df160 cJ0_checkIndex_df160 2 none]
def wsX3_kindOfWord_r3 : List Cond := [Cond.fieldLink RJ0 1053 "jdk/internal/util/Preconditions" "SIOOBE_FORMATTER" "Ljava/util/function/BiFunction;", Cond.methodLink RJ0 1059 yJ3_checkIndex_8e157, Cond.static yJ3_checkIndex_8e157, Cond.initialized RJ3, Cond.code yJ3_checkIndex_8e157 cJ3_checkIndex_8e157 3 (some .int), Cond.methodLink RJ0 498 yJ2_charAt_3b067, Cond.static yJ2_charAt_3b067, Cond.initialized RJ2, Cond.code yJ2_charAt_3b067 cJ2_charAt_3b067 2 (some .char), Cond.methodLink RJ2 67 yJ2_checkIndex_2214a, Cond.static yJ2_checkIndex_2214a, Cond.code yJ2_checkIndex_2214a cJ2_checkIndex_2214a 2 none, Cond.methodLink RJ2 48 yJ2_length_9d52b, Cond.static yJ2_length_9d52b, Cond.code yJ2_length_9d52b cJ2_length_9d52b 1 (some .int), Cond.methodLink RJ2 414 yJ0_checkIndex_df160, Cond.methodLink RJ2 71 yJ2_getChar_3b067, Cond.static yJ2_getChar_3b067, Cond.code yJ2_getChar_3b067 cJ2_getChar_3b067 2 (some .char), Cond.fieldLink RJ2 44 "java/lang/StringUTF16" "$assertionsDisabled" "Z", Cond.fieldLink RJ2 59 "java/lang/StringUTF16" "HI_BYTE_SHIFT" "I", Cond.fieldLink RJ2 63 "java/lang/StringUTF16" "LO_BYTE_SHIFT" "I"]
def wsX3_kindOfWord : List Cond := .code yX3_kindOfWord cX3_kindOfWord 1 (some .int) :: ((wsX3_kindOfWord_r1 ++ (wsX3_kindOfWord_r2 ++ wsX3_kindOfWord_r3)) ++ wsX30 ++ wsX60)
def wsX3_step : List Cond := .code yX3_step cX3_step 1 none :: ([.fieldLink RX3 42 "SharedShadow$Reader" "next" "I", .fieldLink RX3 38 "SharedShadow$Reader" "tokens" "I"] ++ wsX30)
def wsX3_takeNumber : List Cond := .code yX3_takeNumber cX3_takeNumber 2 (some .boolean) :: ([.fieldLink RX3 35 "SharedShadow$Reader" "values" "[I", .fieldLink RX3 42 "SharedShadow$Reader" "next" "I", .methodLink RX3 56 yX3_isNext, .instanceMethod yX3_isNext, .selects RX3 yX3_isNext yX3_isNext, .initialized RX3, .code yX3_isNext cX3_isNext 2 (some .boolean), .fieldLink RX3 25 "SharedShadow$Reader" "types" "[I", .methodLink RX3 60 yX3_step, .instanceMethod yX3_step, .selects RX3 yX3_step yX3_step, .code yX3_step cX3_step 1 none, .fieldLink RX3 38 "SharedShadow$Reader" "tokens" "I"] ++ wsX30)
def wsX3_readTrait_r1 : List Cond := [Cond.fieldLink RX3 35 "SharedShadow$Reader" "values" "[I", Cond.fieldLink RX3 42 "SharedShadow$Reader" "next" "I", Cond.methodLink RX3 97 yX3_isWord, Cond.instanceMethod yX3_isWord, Cond.selects RX3 yX3_isWord yX3_isWord, Cond.initialized RX3, Cond.code yX3_isWord cX3_isWord 3 (some .boolean), Cond.fieldLink RX3 32 "SharedShadow$Reader" "ends" "[I", Cond.fieldLink RX3 29 "SharedShadow$Reader" "places" "[I", Cond.fieldLink RX3 12 "SharedShadow$Reader" "tape" "LSharedShadow$Tape;", Cond.methodLink RX3 56 yX3_isNext, Cond.instanceMethod yX3_isNext, Cond.selects RX3 yX3_isNext yX3_isNext, Cond.code yX3_isNext cX3_isNext 2 (some .boolean), Cond.fieldLink RX3 25 "SharedShadow$Reader" "types" "[I", Cond.methodLink RX3 155 yJ0_length_8abf5, Cond.instanceMethod yJ0_length_8abf5, Cond.selects RJ0 yJ0_length_8abf5 yJ0_length_8abf5, Cond.initialized RJ0, Cond.code yJ0_length_8abf5 cJ0_length_8abf5 1 (some .int), Cond.fieldLink RJ0 9 "java/lang/String" "value" "[B", Cond.methodLink RJ0 335 yJ0_coder_7d493, Cond.instanceMethod yJ0_coder_7d493, Cond.selects RJ0 yJ0_coder_7d493 yJ0_coder_7d493]
def wsX3_readTrait_r2 : List Cond := [Cond.code yJ0_coder_7d493 cJ0_coder_7d493 1 (some .byte), Cond.fieldLink RJ0 38 "java/lang/String" "COMPACT_STRINGS" "Z", Cond.fieldLink RJ0 15 "java/lang/String" "coder" "B", Cond.methodLink RX3 66 yX6_byteAt, Cond.instanceMethod yX6_byteAt, Cond.selects RX6 yX6_byteAt yX6_byteAt, Cond.initialized RX6, Cond.code yX6_byteAt cX6_byteAt 2 (some .int), Cond.fieldLink RX6 13 "SharedShadow$Tape" "length" "I", Cond.fieldLink RX6 9 "SharedShadow$Tape" "bytes" "[I", Cond.methodLink RX3 159 yJ0_charAt_5068e, Cond.instanceMethod yJ0_charAt_5068e, Cond.selects RJ0 yJ0_charAt_5068e yJ0_charAt_5068e, Cond.code yJ0_charAt_5068e cJ0_charAt_5068e 2 (some .char), Cond.methodLink RJ0 492 yJ0_isLatin1_aae02, Cond.instanceMethod yJ0_isLatin1_aae02, Cond.selects RJ0 yJ0_isLatin1_aae02 yJ0_isLatin1_aae02, Cond.code yJ0_isLatin1_aae02 cJ0_isLatin1_aae02 1 (some .boolean), Cond.methodLink RJ0 495 yJ1_charAt_3b067, Cond.static yJ1_charAt_3b067, Cond.initialized RJ1, Cond.code yJ1_charAt_3b067 cJ1_charAt_3b067 2 (some .char), Cond.methodLink RJ1 9 yJ0_checkIndex_df160, Cond.static yJ0_checkIndex_df160]
def wsX3_readTrait_r3 : List Cond := [Cond.code yJ0_checkIndex_df160 cJ0_checkIndex_df160 2 none, Cond.fieldLink RJ0 1053 "jdk/internal/util/Preconditions" "SIOOBE_FORMATTER" "Ljava/util/function/BiFunction;", Cond.methodLink RJ0 1059 yJ3_checkIndex_8e157, Cond.static yJ3_checkIndex_8e157, Cond.initialized RJ3, Cond.code yJ3_checkIndex_8e157 cJ3_checkIndex_8e157 3 (some .int), Cond.methodLink RJ0 498 yJ2_charAt_3b067, Cond.static yJ2_charAt_3b067, Cond.initialized RJ2, Cond.code yJ2_charAt_3b067 cJ2_charAt_3b067 2 (some .char), Cond.methodLink RJ2 67 yJ2_checkIndex_2214a, Cond.static yJ2_checkIndex_2214a, Cond.code yJ2_checkIndex_2214a cJ2_checkIndex_2214a 2 none, Cond.methodLink RJ2 48 yJ2_length_9d52b, Cond.static yJ2_length_9d52b, Cond.code yJ2_length_9d52b cJ2_length_9d52b 1 (some .int), Cond.methodLink RJ2 414 yJ0_checkIndex_df160, Cond.methodLink RJ2 71 yJ2_getChar_3b067, Cond.static yJ2_getChar_3b067, Cond.code yJ2_getChar_3b067 cJ2_getChar_3b067 2 (some .char), Cond.fieldLink RJ2 44 "java/lang/StringUTF16" "$assertionsDisabled" "Z", Cond.fieldLink RJ2 59 "java/lang/StringUTF16" "HI_BYTE_SHIFT" "I", Cond.fieldLink RJ2 63 "java/lang/StringUTF16" "LO_BYTE_SHIFT" "I", Cond.methodLink RX3 60 yX3_step]
def wsX3_readTrait_r4 : List Cond := [Cond.instanceMethod yX3_step, Cond.selects RX3 yX3_step yX3_step, Cond.code yX3_step cX3_step 1 none, Cond.fieldLink RX3 38 "SharedShadow$Reader" "tokens" "I", Cond.methodLink RX3 115 yX3_takeNumber, Cond.instanceMethod yX3_takeNumber, Cond.selects RX3 yX3_takeNumber yX3_takeNumber, Cond.code yX3_takeNumber cX3_takeNumber 2 (some .boolean), Cond.static yX7_isWithin, Cond.initialized RX7, Cond.code yX7_isWithin cX7_isWithin 2 (some .boolean)]
def wsX3_readTrait : List Cond := .code yX3_readTrait cX3_readTrait 6 (some .boolean) :: ((wsX3_readTrait_r1 ++ (wsX3_readTrait_r2 ++ (wsX3_readTrait_r3 ++ wsX3_readTrait_r4))) ++ wsX30 ++ wsX60)
def wsX3_readPerson_r1 : List Cond := [Cond.fieldLink RX3 21 "SharedShadow$Reader" "draft" "LSharedShadow$Land;", Cond.fieldLink RX3 131 "SharedShadow$Land" "sun" "[I", Cond.fieldLink RX3 139 "SharedShadow$Land" "strength" "[I", Cond.fieldLink RX3 143 "SharedShadow$Land" "needs" "[I", Cond.constant RX3 114 (65535), Cond.methodLink RX3 123 yX1_isFull, Cond.instanceMethod yX1_isFull, Cond.selects RX1 yX1_isFull yX1_isFull, Cond.initialized RX1, Cond.code yX1_isFull cX1_isFull 1 (some .boolean), Cond.fieldLink RX1 30 "SharedShadow$Land" "people" "I", Cond.methodLink RX3 88 yX3_kindOfWord, Cond.instanceMethod yX3_kindOfWord, Cond.selects RX3 yX3_kindOfWord yX3_kindOfWord, Cond.initialized RX3, Cond.code yX3_kindOfWord cX3_kindOfWord 1 (some .int), Cond.methodLink RX3 97 yX3_isWord, Cond.instanceMethod yX3_isWord, Cond.selects RX3 yX3_isWord yX3_isWord, Cond.code yX3_isWord cX3_isWord 3 (some .boolean), Cond.fieldLink RX3 32 "SharedShadow$Reader" "ends" "[I", Cond.fieldLink RX3 42 "SharedShadow$Reader" "next" "I", Cond.fieldLink RX3 29 "SharedShadow$Reader" "places" "[I", Cond.fieldLink RX3 12 "SharedShadow$Reader" "tape" "LSharedShadow$Tape;"]
def wsX3_readPerson_r2 : List Cond := [Cond.methodLink RX3 56 yX3_isNext, Cond.instanceMethod yX3_isNext, Cond.selects RX3 yX3_isNext yX3_isNext, Cond.code yX3_isNext cX3_isNext 2 (some .boolean), Cond.fieldLink RX3 25 "SharedShadow$Reader" "types" "[I", Cond.methodLink RX3 155 yJ0_length_8abf5, Cond.instanceMethod yJ0_length_8abf5, Cond.selects RJ0 yJ0_length_8abf5 yJ0_length_8abf5, Cond.initialized RJ0, Cond.code yJ0_length_8abf5 cJ0_length_8abf5 1 (some .int), Cond.fieldLink RJ0 9 "java/lang/String" "value" "[B", Cond.methodLink RJ0 335 yJ0_coder_7d493, Cond.instanceMethod yJ0_coder_7d493, Cond.selects RJ0 yJ0_coder_7d493 yJ0_coder_7d493, Cond.code yJ0_coder_7d493 cJ0_coder_7d493 1 (some .byte), Cond.fieldLink RJ0 38 "java/lang/String" "COMPACT_STRINGS" "Z", Cond.fieldLink RJ0 15 "java/lang/String" "coder" "B", Cond.methodLink RX3 66 yX6_byteAt, Cond.instanceMethod yX6_byteAt, Cond.selects RX6 yX6_byteAt yX6_byteAt, Cond.initialized RX6, Cond.code yX6_byteAt cX6_byteAt 2 (some .int), Cond.fieldLink RX6 13 "SharedShadow$Tape" "length" "I", Cond.fieldLink RX6 9 "SharedShadow$Tape" "bytes" "[I"]
def wsX3_readPerson_r3 : List Cond := [Cond.methodLink RX3 159 yJ0_charAt_5068e, Cond.instanceMethod yJ0_charAt_5068e, Cond.selects RJ0 yJ0_charAt_5068e yJ0_charAt_5068e, Cond.code yJ0_charAt_5068e cJ0_charAt_5068e 2 (some .char), Cond.methodLink RJ0 492 yJ0_isLatin1_aae02, Cond.instanceMethod yJ0_isLatin1_aae02, Cond.selects RJ0 yJ0_isLatin1_aae02 yJ0_isLatin1_aae02, Cond.code yJ0_isLatin1_aae02 cJ0_isLatin1_aae02 1 (some .boolean), Cond.methodLink RJ0 495 yJ1_charAt_3b067, Cond.static yJ1_charAt_3b067, Cond.initialized RJ1, Cond.code yJ1_charAt_3b067 cJ1_charAt_3b067 2 (some .char), Cond.methodLink RJ1 9 yJ0_checkIndex_df160, Cond.static yJ0_checkIndex_df160, Cond.code yJ0_checkIndex_df160 cJ0_checkIndex_df160 2 none, Cond.fieldLink RJ0 1053 "jdk/internal/util/Preconditions" "SIOOBE_FORMATTER" "Ljava/util/function/BiFunction;", Cond.methodLink RJ0 1059 yJ3_checkIndex_8e157, Cond.static yJ3_checkIndex_8e157, Cond.initialized RJ3, Cond.code yJ3_checkIndex_8e157 cJ3_checkIndex_8e157 3 (some .int), Cond.methodLink RJ0 498 yJ2_charAt_3b067, Cond.static yJ2_charAt_3b067, Cond.initialized RJ2, Cond.code yJ2_charAt_3b067 cJ2_charAt_3b067 2 (some .char)]
def wsX3_readPerson_r4 : List Cond := [Cond.methodLink RJ2 67 yJ2_checkIndex_2214a, Cond.static yJ2_checkIndex_2214a, Cond.code yJ2_checkIndex_2214a cJ2_checkIndex_2214a 2 none, Cond.methodLink RJ2 48 yJ2_length_9d52b, Cond.static yJ2_length_9d52b, Cond.code yJ2_length_9d52b cJ2_length_9d52b 1 (some .int), Cond.methodLink RJ2 414 yJ0_checkIndex_df160, Cond.methodLink RJ2 71 yJ2_getChar_3b067, Cond.static yJ2_getChar_3b067, Cond.code yJ2_getChar_3b067 cJ2_getChar_3b067 2 (some .char), Cond.fieldLink RJ2 44 "java/lang/StringUTF16" "$assertionsDisabled" "Z", Cond.fieldLink RJ2 59 "java/lang/StringUTF16" "HI_BYTE_SHIFT" "I", Cond.fieldLink RJ2 63 "java/lang/StringUTF16" "LO_BYTE_SHIFT" "I", Cond.methodLink RX3 126 yX1_add, Cond.instanceMethod yX1_add, Cond.selects RX1 yX1_add yX1_add, Cond.code yX1_add cX1_add 2 (some .int), Cond.fieldLink RX1 9 "SharedShadow$Land" "kind" "[I", Cond.fieldLink RX1 15 "SharedShadow$Land" "sun" "[I", Cond.fieldLink RX1 18 "SharedShadow$Land" "strength" "[I", Cond.fieldLink RX1 21 "SharedShadow$Land" "needs" "[I", Cond.fieldLink RX1 24 "SharedShadow$Land" "partner" "[I", Cond.methodLink RX1 60 yX1_isFull, Cond.methodLink RX3 60 yX3_step]
def wsX3_readPerson_r5 : List Cond := [Cond.instanceMethod yX3_step, Cond.selects RX3 yX3_step yX3_step, Cond.code yX3_step cX3_step 1 none, Cond.fieldLink RX3 38 "SharedShadow$Reader" "tokens" "I", Cond.methodLink RX3 133 yX3_readTrait, Cond.instanceMethod yX3_readTrait, Cond.selects RX3 yX3_readTrait yX3_readTrait, Cond.code yX3_readTrait cX3_readTrait 6 (some .boolean), Cond.fieldLink RX3 35 "SharedShadow$Reader" "values" "[I", Cond.methodLink RX3 115 yX3_takeNumber, Cond.instanceMethod yX3_takeNumber, Cond.selects RX3 yX3_takeNumber yX3_takeNumber, Cond.code yX3_takeNumber cX3_takeNumber 2 (some .boolean), Cond.static yX7_isWithin, Cond.initialized RX7, Cond.code yX7_isWithin cX7_isWithin 2 (some .boolean)]
def wsX3_readPerson : List Cond := .code yX3_readPerson cX3_readPerson 2 (some .boolean) :: ((wsX3_readPerson_r1 ++ (wsX3_readPerson_r2 ++ (wsX3_readPerson_r3 ++ (wsX3_readPerson_r4 ++ wsX3_readPerson_r5)))) ++ wsX30 ++ wsX10 ++ wsX60)
def wsX3_readShare_r1 : List Cond := [Cond.fieldLink RX3 35 "SharedShadow$Reader" "values" "[I", Cond.fieldLink RX3 42 "SharedShadow$Reader" "next" "I", Cond.fieldLink RX3 21 "SharedShadow$Reader" "draft" "LSharedShadow$Land;", Cond.fieldLink RX3 149 "SharedShadow$Land" "people" "I", Cond.methodLink RX3 60 yX3_step, Cond.instanceMethod yX3_step, Cond.selects RX3 yX3_step yX3_step, Cond.initialized RX3, Cond.code yX3_step cX3_step 1 none, Cond.fieldLink RX3 38 "SharedShadow$Reader" "tokens" "I", Cond.methodLink RX3 115 yX3_takeNumber, Cond.instanceMethod yX3_takeNumber, Cond.selects RX3 yX3_takeNumber yX3_takeNumber, Cond.code yX3_takeNumber cX3_takeNumber 2 (some .boolean), Cond.methodLink RX3 56 yX3_isNext, Cond.instanceMethod yX3_isNext, Cond.selects RX3 yX3_isNext yX3_isNext, Cond.code yX3_isNext cX3_isNext 2 (some .boolean), Cond.fieldLink RX3 25 "SharedShadow$Reader" "types" "[I", Cond.methodLink RX3 152 yX1_join, Cond.instanceMethod yX1_join, Cond.selects RX1 yX1_join yX1_join, Cond.initialized RX1, Cond.code yX1_join cX1_join 3 none]
def wsX3_readShare_r2 : List Cond := [Cond.fieldLink RX1 24 "SharedShadow$Land" "partner" "[I", Cond.methodLink RX1 64 yX1_areTwo, Cond.instanceMethod yX1_areTwo, Cond.selects RX1 yX1_areTwo yX1_areTwo, Cond.code yX1_areTwo cX1_areTwo 3 (some .boolean), Cond.methodLink RX1 56 yX1_isPerson, Cond.instanceMethod yX1_isPerson, Cond.selects RX1 yX1_isPerson yX1_isPerson, Cond.code yX1_isPerson cX1_isPerson 2 (some .boolean), Cond.fieldLink RX1 30 "SharedShadow$Land" "people" "I", Cond.methodLink RX1 68 yX1_separate, Cond.instanceMethod yX1_separate, Cond.selects RX1 yX1_separate yX1_separate, Cond.code yX1_separate cX1_separate 2 none]
def wsX3_readShare : List Cond := .code yX3_readShare cX3_readShare 3 (some .boolean) :: ((wsX3_readShare_r1 ++ wsX3_readShare_r2) ++ wsX30 ++ wsX10)
def wsX3_readLight : List Cond := .code yX3_readLight cX3_readLight 2 (some .boolean) :: ([.fieldLink RX3 35 "SharedShadow$Reader" "values" "[I", .fieldLink RX3 42 "SharedShadow$Reader" "next" "I", .constant RX3 114 (65535), .fieldLink RX3 21 "SharedShadow$Reader" "draft" "LSharedShadow$Land;", .fieldLink RX3 118 "SharedShadow$Land" "lit" "I", .methodLink RX3 60 yX3_step, .instanceMethod yX3_step, .selects RX3 yX3_step yX3_step, .initialized RX3, .code yX3_step cX3_step 1 none, .fieldLink RX3 38 "SharedShadow$Reader" "tokens" "I", .methodLink RX3 115 yX3_takeNumber, .instanceMethod yX3_takeNumber, .selects RX3 yX3_takeNumber yX3_takeNumber, .code yX3_takeNumber cX3_takeNumber 2 (some .boolean), .methodLink RX3 56 yX3_isNext, .instanceMethod yX3_isNext, .selects RX3 yX3_isNext yX3_isNext, .code yX3_isNext cX3_isNext 2 (some .boolean), .fieldLink RX3 25 "SharedShadow$Reader" "types" "[I"] ++ wsX30 ++ wsX10)
def wsX3_readHour : List Cond := .code yX3_readHour cX3_readHour 2 (some .boolean) :: ([.fieldLink RX3 35 "SharedShadow$Reader" "values" "[I", .fieldLink RX3 42 "SharedShadow$Reader" "next" "I", .fieldLink RX3 21 "SharedShadow$Reader" "draft" "LSharedShadow$Land;", .fieldLink RX3 121 "SharedShadow$Land" "hour" "I", .methodLink RX3 60 yX3_step, .instanceMethod yX3_step, .selects RX3 yX3_step yX3_step, .initialized RX3, .code yX3_step cX3_step 1 none, .fieldLink RX3 38 "SharedShadow$Reader" "tokens" "I", .methodLink RX3 115 yX3_takeNumber, .instanceMethod yX3_takeNumber, .selects RX3 yX3_takeNumber yX3_takeNumber, .code yX3_takeNumber cX3_takeNumber 2 (some .boolean), .methodLink RX3 56 yX3_isNext, .instanceMethod yX3_isNext, .selects RX3 yX3_isNext yX3_isNext, .code yX3_isNext cX3_isNext 2 (some .boolean), .fieldLink RX3 25 "SharedShadow$Reader" "types" "[I"] ++ wsX30 ++ wsX10)
def wsX3_readItem_r1 : List Cond := [Cond.methodLink RX3 88 yX3_kindOfWord, Cond.instanceMethod yX3_kindOfWord, Cond.selects RX3 yX3_kindOfWord yX3_kindOfWord, Cond.initialized RX3, Cond.code yX3_kindOfWord cX3_kindOfWord 1 (some .int), Cond.methodLink RX3 97 yX3_isWord, Cond.instanceMethod yX3_isWord, Cond.selects RX3 yX3_isWord yX3_isWord, Cond.code yX3_isWord cX3_isWord 3 (some .boolean), Cond.fieldLink RX3 32 "SharedShadow$Reader" "ends" "[I", Cond.fieldLink RX3 42 "SharedShadow$Reader" "next" "I", Cond.fieldLink RX3 29 "SharedShadow$Reader" "places" "[I", Cond.fieldLink RX3 12 "SharedShadow$Reader" "tape" "LSharedShadow$Tape;", Cond.methodLink RX3 56 yX3_isNext, Cond.instanceMethod yX3_isNext, Cond.selects RX3 yX3_isNext yX3_isNext, Cond.code yX3_isNext cX3_isNext 2 (some .boolean), Cond.fieldLink RX3 25 "SharedShadow$Reader" "types" "[I", Cond.methodLink RX3 155 yJ0_length_8abf5, Cond.instanceMethod yJ0_length_8abf5, Cond.selects RJ0 yJ0_length_8abf5 yJ0_length_8abf5, Cond.initialized RJ0, Cond.code yJ0_length_8abf5 cJ0_length_8abf5 1 (some .int), Cond.fieldLink RJ0 9 "java/lang/String" "value" "[B"]
def wsX3_readItem_r2 : List Cond := [Cond.methodLink RJ0 335 yJ0_coder_7d493, Cond.instanceMethod yJ0_coder_7d493, Cond.selects RJ0 yJ0_coder_7d493 yJ0_coder_7d493, Cond.code yJ0_coder_7d493 cJ0_coder_7d493 1 (some .byte), Cond.fieldLink RJ0 38 "java/lang/String" "COMPACT_STRINGS" "Z", Cond.fieldLink RJ0 15 "java/lang/String" "coder" "B", Cond.methodLink RX3 66 yX6_byteAt, Cond.instanceMethod yX6_byteAt, Cond.selects RX6 yX6_byteAt yX6_byteAt, Cond.initialized RX6, Cond.code yX6_byteAt cX6_byteAt 2 (some .int), Cond.fieldLink RX6 13 "SharedShadow$Tape" "length" "I", Cond.fieldLink RX6 9 "SharedShadow$Tape" "bytes" "[I", Cond.methodLink RX3 159 yJ0_charAt_5068e, Cond.instanceMethod yJ0_charAt_5068e, Cond.selects RJ0 yJ0_charAt_5068e yJ0_charAt_5068e, Cond.code yJ0_charAt_5068e cJ0_charAt_5068e 2 (some .char), Cond.methodLink RJ0 492 yJ0_isLatin1_aae02, Cond.instanceMethod yJ0_isLatin1_aae02, Cond.selects RJ0 yJ0_isLatin1_aae02 yJ0_isLatin1_aae02, Cond.code yJ0_isLatin1_aae02 cJ0_isLatin1_aae02 1 (some .boolean), Cond.methodLink RJ0 495 yJ1_charAt_3b067, Cond.static yJ1_charAt_3b067, Cond.initialized RJ1]
def wsX3_readItem_r3 : List Cond := [Cond.code yJ1_charAt_3b067 cJ1_charAt_3b067 2 (some .char), Cond.methodLink RJ1 9 yJ0_checkIndex_df160, Cond.static yJ0_checkIndex_df160, Cond.code yJ0_checkIndex_df160 cJ0_checkIndex_df160 2 none, Cond.fieldLink RJ0 1053 "jdk/internal/util/Preconditions" "SIOOBE_FORMATTER" "Ljava/util/function/BiFunction;", Cond.methodLink RJ0 1059 yJ3_checkIndex_8e157, Cond.static yJ3_checkIndex_8e157, Cond.initialized RJ3, Cond.code yJ3_checkIndex_8e157 cJ3_checkIndex_8e157 3 (some .int), Cond.methodLink RJ0 498 yJ2_charAt_3b067, Cond.static yJ2_charAt_3b067, Cond.initialized RJ2, Cond.code yJ2_charAt_3b067 cJ2_charAt_3b067 2 (some .char), Cond.methodLink RJ2 67 yJ2_checkIndex_2214a, Cond.static yJ2_checkIndex_2214a, Cond.code yJ2_checkIndex_2214a cJ2_checkIndex_2214a 2 none, Cond.methodLink RJ2 48 yJ2_length_9d52b, Cond.static yJ2_length_9d52b, Cond.code yJ2_length_9d52b cJ2_length_9d52b 1 (some .int), Cond.methodLink RJ2 414 yJ0_checkIndex_df160, Cond.methodLink RJ2 71 yJ2_getChar_3b067, Cond.static yJ2_getChar_3b067, Cond.code yJ2_getChar_3b067 cJ2_getChar_3b067 2 (some .char), Cond.fieldLink RJ2 44 "java/lang/StringUTF16" "$assertionsDisabled" "Z"]
def wsX3_readItem_r4 : List Cond := [Cond.fieldLink RJ2 59 "java/lang/StringUTF16" "HI_BYTE_SHIFT" "I", Cond.fieldLink RJ2 63 "java/lang/StringUTF16" "LO_BYTE_SHIFT" "I", Cond.methodLink RX3 92 yX3_readPerson, Cond.instanceMethod yX3_readPerson, Cond.selects RX3 yX3_readPerson yX3_readPerson, Cond.code yX3_readPerson cX3_readPerson 2 (some .boolean), Cond.fieldLink RX3 21 "SharedShadow$Reader" "draft" "LSharedShadow$Land;", Cond.fieldLink RX3 131 "SharedShadow$Land" "sun" "[I", Cond.fieldLink RX3 139 "SharedShadow$Land" "strength" "[I", Cond.fieldLink RX3 143 "SharedShadow$Land" "needs" "[I", Cond.constant RX3 114 (65535), Cond.methodLink RX3 123 yX1_isFull, Cond.instanceMethod yX1_isFull, Cond.selects RX1 yX1_isFull yX1_isFull, Cond.initialized RX1, Cond.code yX1_isFull cX1_isFull 1 (some .boolean), Cond.fieldLink RX1 30 "SharedShadow$Land" "people" "I", Cond.methodLink RX3 126 yX1_add, Cond.instanceMethod yX1_add, Cond.selects RX1 yX1_add yX1_add, Cond.code yX1_add cX1_add 2 (some .int), Cond.fieldLink RX1 9 "SharedShadow$Land" "kind" "[I", Cond.fieldLink RX1 15 "SharedShadow$Land" "sun" "[I", Cond.fieldLink RX1 18 "SharedShadow$Land" "strength" "[I"]
def wsX3_readItem_r5 : List Cond := [Cond.fieldLink RX1 21 "SharedShadow$Land" "needs" "[I", Cond.fieldLink RX1 24 "SharedShadow$Land" "partner" "[I", Cond.methodLink RX1 60 yX1_isFull, Cond.methodLink RX3 60 yX3_step, Cond.instanceMethod yX3_step, Cond.selects RX3 yX3_step yX3_step, Cond.code yX3_step cX3_step 1 none, Cond.fieldLink RX3 38 "SharedShadow$Reader" "tokens" "I", Cond.methodLink RX3 133 yX3_readTrait, Cond.instanceMethod yX3_readTrait, Cond.selects RX3 yX3_readTrait yX3_readTrait, Cond.code yX3_readTrait cX3_readTrait 6 (some .boolean), Cond.fieldLink RX3 35 "SharedShadow$Reader" "values" "[I", Cond.methodLink RX3 115 yX3_takeNumber, Cond.instanceMethod yX3_takeNumber, Cond.selects RX3 yX3_takeNumber yX3_takeNumber, Cond.code yX3_takeNumber cX3_takeNumber 2 (some .boolean), Cond.static yX7_isWithin, Cond.initialized RX7, Cond.code yX7_isWithin cX7_isWithin 2 (some .boolean), Cond.methodLink RX3 101 yX3_readShare, Cond.instanceMethod yX3_readShare, Cond.selects RX3 yX3_readShare yX3_readShare, Cond.code yX3_readShare cX3_readShare 3 (some .boolean)]
def wsX3_readItem_r6 : List Cond := [Cond.fieldLink RX3 149 "SharedShadow$Land" "people" "I", Cond.methodLink RX3 152 yX1_join, Cond.instanceMethod yX1_join, Cond.selects RX1 yX1_join yX1_join, Cond.code yX1_join cX1_join 3 none, Cond.methodLink RX1 64 yX1_areTwo, Cond.instanceMethod yX1_areTwo, Cond.selects RX1 yX1_areTwo yX1_areTwo, Cond.code yX1_areTwo cX1_areTwo 3 (some .boolean), Cond.methodLink RX1 56 yX1_isPerson, Cond.instanceMethod yX1_isPerson, Cond.selects RX1 yX1_isPerson yX1_isPerson, Cond.code yX1_isPerson cX1_isPerson 2 (some .boolean), Cond.methodLink RX1 68 yX1_separate, Cond.instanceMethod yX1_separate, Cond.selects RX1 yX1_separate yX1_separate, Cond.code yX1_separate cX1_separate 2 none, Cond.methodLink RX3 106 yX3_readLight, Cond.instanceMethod yX3_readLight, Cond.selects RX3 yX3_readLight yX3_readLight, Cond.code yX3_readLight cX3_readLight 2 (some .boolean), Cond.fieldLink RX3 118 "SharedShadow$Land" "lit" "I", Cond.methodLink RX3 111 yX3_readHour, Cond.instanceMethod yX3_readHour]
def wsX3_readItem_r7 : List Cond := [Cond.selects RX3 yX3_readHour yX3_readHour, Cond.code yX3_readHour cX3_readHour 2 (some .boolean), Cond.fieldLink RX3 121 "SharedShadow$Land" "hour" "I"]
def wsX3_readItem : List Cond := .code yX3_readItem cX3_readItem 1 (some .boolean) :: ((wsX3_readItem_r1 ++ (wsX3_readItem_r2 ++ (wsX3_readItem_r3 ++ (wsX3_readItem_r4 ++ (wsX3_readItem_r5 ++ (wsX3_readItem_r6 ++ wsX3_readItem_r7)))))) ++ wsX30 ++ wsX60 ++ wsX10)
def wsX3_read_r1 : List Cond := [Cond.fieldLink RX3 21 "SharedShadow$Reader" "draft" "LSharedShadow$Land;", Cond.fieldLink RX3 29 "SharedShadow$Reader" "places" "[I", Cond.fieldLink RX3 42 "SharedShadow$Reader" "next" "I", Cond.methodLink RX3 45 yX3_split, Cond.instanceMethod yX3_split, Cond.selects RX3 yX3_split yX3_split, Cond.initialized RX3, Cond.code yX3_split cX3_split 4 none, Cond.fieldLink RX3 38 "SharedShadow$Reader" "tokens" "I", Cond.fieldLink RX3 12 "SharedShadow$Reader" "tape" "LSharedShadow$Tape;", Cond.fieldLink RX3 63 "SharedShadow$Tape" "length" "I", Cond.methodLink RX3 66 yX6_byteAt, Cond.instanceMethod yX6_byteAt, Cond.selects RX6 yX6_byteAt yX6_byteAt, Cond.initialized RX6, Cond.code yX6_byteAt cX6_byteAt 2 (some .int), Cond.fieldLink RX6 13 "SharedShadow$Tape" "length" "I", Cond.fieldLink RX6 9 "SharedShadow$Tape" "bytes" "[I", Cond.methodLink RX3 70 yX3_typeOf, Cond.static yX3_typeOf, Cond.code yX3_typeOf cX3_typeOf 1 (some .int), Cond.methodLink RX3 73 yX3_beginToken, Cond.instanceMethod yX3_beginToken, Cond.selects RX3 yX3_beginToken yX3_beginToken]
def wsX3_read_r2 : List Cond := [Cond.code yX3_beginToken cX3_beginToken 3 none, Cond.fieldLink RX3 25 "SharedShadow$Reader" "types" "[I", Cond.fieldLink RX3 35 "SharedShadow$Reader" "values" "[I", Cond.methodLink RX3 77 yX3_lengthenToken, Cond.instanceMethod yX3_lengthenToken, Cond.selects RX3 yX3_lengthenToken yX3_lengthenToken, Cond.code yX3_lengthenToken cX3_lengthenToken 3 none, Cond.fieldLink RX3 32 "SharedShadow$Reader" "ends" "[I", Cond.constant RX3 81 (100000), Cond.methodLink RX3 82 Lib.Math.min.name, Cond.static Lib.Math.min.name, Cond.initialized "java/lang/Math", Cond.code Lib.Math.min.name Lib.Math.min.code 2 (some .int), Cond.methodLink RX3 48 yX1_become, Cond.instanceMethod yX1_become, Cond.selects RX1 yX1_become yX1_become, Cond.initialized RX1, Cond.code yX1_become cX1_become 2 none, Cond.fieldLink RX1 9 "SharedShadow$Land" "kind" "[I", Cond.methodLink RX1 50 arraycopyName, Cond.native arraycopyName, Cond.static arraycopyName, Cond.initialized "java/lang/System", Cond.fieldLink RX1 15 "SharedShadow$Land" "sun" "[I"]
def wsX3_read_r3 : List Cond := [Cond.fieldLink RX1 18 "SharedShadow$Land" "strength" "[I", Cond.fieldLink RX1 21 "SharedShadow$Land" "needs" "[I", Cond.fieldLink RX1 24 "SharedShadow$Land" "partner" "[I", Cond.fieldLink RX1 27 "SharedShadow$Land" "spots" "[I", Cond.fieldLink RX1 30 "SharedShadow$Land" "people" "I", Cond.fieldLink RX1 35 "SharedShadow$Land" "lit" "I", Cond.fieldLink RX1 38 "SharedShadow$Land" "hour" "I", Cond.fieldLink RX1 41 "SharedShadow$Land" "wereMet" "I", Cond.fieldLink RX1 44 "SharedShadow$Land" "wereMissed" "I", Cond.fieldLink RX1 47 "SharedShadow$Land" "drawn" "I", Cond.methodLink RX3 52 yX3_readItem, Cond.instanceMethod yX3_readItem, Cond.selects RX3 yX3_readItem yX3_readItem, Cond.code yX3_readItem cX3_readItem 1 (some .boolean), Cond.methodLink RX3 88 yX3_kindOfWord, Cond.instanceMethod yX3_kindOfWord, Cond.selects RX3 yX3_kindOfWord yX3_kindOfWord, Cond.code yX3_kindOfWord cX3_kindOfWord 1 (some .int), Cond.methodLink RX3 97 yX3_isWord, Cond.instanceMethod yX3_isWord, Cond.selects RX3 yX3_isWord yX3_isWord, Cond.code yX3_isWord cX3_isWord 3 (some .boolean), Cond.methodLink RX3 56 yX3_isNext, Cond.instanceMethod yX3_isNext]
def wsX3_read_r4 : List Cond := [Cond.selects RX3 yX3_isNext yX3_isNext, Cond.code yX3_isNext cX3_isNext 2 (some .boolean), Cond.methodLink RX3 155 yJ0_length_8abf5, Cond.instanceMethod yJ0_length_8abf5, Cond.selects RJ0 yJ0_length_8abf5 yJ0_length_8abf5, Cond.initialized RJ0, Cond.code yJ0_length_8abf5 cJ0_length_8abf5 1 (some .int), Cond.fieldLink RJ0 9 "java/lang/String" "value" "[B", Cond.methodLink RJ0 335 yJ0_coder_7d493, Cond.instanceMethod yJ0_coder_7d493, Cond.selects RJ0 yJ0_coder_7d493 yJ0_coder_7d493, Cond.code yJ0_coder_7d493 cJ0_coder_7d493 1 (some .byte), Cond.fieldLink RJ0 38 "java/lang/String" "COMPACT_STRINGS" "Z", Cond.fieldLink RJ0 15 "java/lang/String" "coder" "B", Cond.methodLink RX3 159 yJ0_charAt_5068e, Cond.instanceMethod yJ0_charAt_5068e, Cond.selects RJ0 yJ0_charAt_5068e yJ0_charAt_5068e, Cond.code yJ0_charAt_5068e cJ0_charAt_5068e 2 (some .char), Cond.methodLink RJ0 492 yJ0_isLatin1_aae02, Cond.instanceMethod yJ0_isLatin1_aae02, Cond.selects RJ0 yJ0_isLatin1_aae02 yJ0_isLatin1_aae02, Cond.code yJ0_isLatin1_aae02 cJ0_isLatin1_aae02 1 (some .boolean), Cond.methodLink RJ0 495 yJ1_charAt_3b067, Cond.static yJ1_charAt_3b067]
def wsX3_read_r5 : List Cond := [Cond.initialized RJ1, Cond.code yJ1_charAt_3b067 cJ1_charAt_3b067 2 (some .char), Cond.methodLink RJ1 9 yJ0_checkIndex_df160, Cond.static yJ0_checkIndex_df160, Cond.code yJ0_checkIndex_df160 cJ0_checkIndex_df160 2 none, Cond.fieldLink RJ0 1053 "jdk/internal/util/Preconditions" "SIOOBE_FORMATTER" "Ljava/util/function/BiFunction;", Cond.methodLink RJ0 1059 yJ3_checkIndex_8e157, Cond.static yJ3_checkIndex_8e157, Cond.initialized RJ3, Cond.code yJ3_checkIndex_8e157 cJ3_checkIndex_8e157 3 (some .int), Cond.methodLink RJ0 498 yJ2_charAt_3b067, Cond.static yJ2_charAt_3b067, Cond.initialized RJ2, Cond.code yJ2_charAt_3b067 cJ2_charAt_3b067 2 (some .char), Cond.methodLink RJ2 67 yJ2_checkIndex_2214a, Cond.static yJ2_checkIndex_2214a, Cond.code yJ2_checkIndex_2214a cJ2_checkIndex_2214a 2 none, Cond.methodLink RJ2 48 yJ2_length_9d52b, Cond.static yJ2_length_9d52b, Cond.code yJ2_length_9d52b cJ2_length_9d52b 1 (some .int), Cond.methodLink RJ2 414 yJ0_checkIndex_df160, Cond.methodLink RJ2 71 yJ2_getChar_3b067, Cond.static yJ2_getChar_3b067, Cond.code yJ2_getChar_3b067 cJ2_getChar_3b067 2 (some .char)]
def wsX3_read_r6 : List Cond := [Cond.fieldLink RJ2 44 "java/lang/StringUTF16" "$assertionsDisabled" "Z", Cond.fieldLink RJ2 59 "java/lang/StringUTF16" "HI_BYTE_SHIFT" "I", Cond.fieldLink RJ2 63 "java/lang/StringUTF16" "LO_BYTE_SHIFT" "I", Cond.methodLink RX3 92 yX3_readPerson, Cond.instanceMethod yX3_readPerson, Cond.selects RX3 yX3_readPerson yX3_readPerson, Cond.code yX3_readPerson cX3_readPerson 2 (some .boolean), Cond.fieldLink RX3 131 "SharedShadow$Land" "sun" "[I", Cond.fieldLink RX3 139 "SharedShadow$Land" "strength" "[I", Cond.fieldLink RX3 143 "SharedShadow$Land" "needs" "[I", Cond.constant RX3 114 (65535), Cond.methodLink RX3 123 yX1_isFull, Cond.instanceMethod yX1_isFull, Cond.selects RX1 yX1_isFull yX1_isFull, Cond.code yX1_isFull cX1_isFull 1 (some .boolean), Cond.methodLink RX3 126 yX1_add, Cond.instanceMethod yX1_add, Cond.selects RX1 yX1_add yX1_add, Cond.code yX1_add cX1_add 2 (some .int), Cond.methodLink RX1 60 yX1_isFull, Cond.methodLink RX3 60 yX3_step, Cond.instanceMethod yX3_step, Cond.selects RX3 yX3_step yX3_step, Cond.code yX3_step cX3_step 1 none]
def wsX3_read_r7 : List Cond := [Cond.methodLink RX3 133 yX3_readTrait, Cond.instanceMethod yX3_readTrait, Cond.selects RX3 yX3_readTrait yX3_readTrait, Cond.code yX3_readTrait cX3_readTrait 6 (some .boolean), Cond.methodLink RX3 115 yX3_takeNumber, Cond.instanceMethod yX3_takeNumber, Cond.selects RX3 yX3_takeNumber yX3_takeNumber, Cond.code yX3_takeNumber cX3_takeNumber 2 (some .boolean), Cond.static yX7_isWithin, Cond.initialized RX7, Cond.code yX7_isWithin cX7_isWithin 2 (some .boolean), Cond.methodLink RX3 101 yX3_readShare, Cond.instanceMethod yX3_readShare, Cond.selects RX3 yX3_readShare yX3_readShare, Cond.code yX3_readShare cX3_readShare 3 (some .boolean), Cond.fieldLink RX3 149 "SharedShadow$Land" "people" "I", Cond.methodLink RX3 152 yX1_join, Cond.instanceMethod yX1_join, Cond.selects RX1 yX1_join yX1_join, Cond.code yX1_join cX1_join 3 none, Cond.methodLink RX1 64 yX1_areTwo, Cond.instanceMethod yX1_areTwo, Cond.selects RX1 yX1_areTwo yX1_areTwo, Cond.code yX1_areTwo cX1_areTwo 3 (some .boolean)]
def wsX3_read_r8 : List Cond := [Cond.methodLink RX1 56 yX1_isPerson, Cond.instanceMethod yX1_isPerson, Cond.selects RX1 yX1_isPerson yX1_isPerson, Cond.code yX1_isPerson cX1_isPerson 2 (some .boolean), Cond.methodLink RX1 68 yX1_separate, Cond.instanceMethod yX1_separate, Cond.selects RX1 yX1_separate yX1_separate, Cond.code yX1_separate cX1_separate 2 none, Cond.methodLink RX3 106 yX3_readLight, Cond.instanceMethod yX3_readLight, Cond.selects RX3 yX3_readLight yX3_readLight, Cond.code yX3_readLight cX3_readLight 2 (some .boolean), Cond.fieldLink RX3 118 "SharedShadow$Land" "lit" "I", Cond.methodLink RX3 111 yX3_readHour, Cond.instanceMethod yX3_readHour, Cond.selects RX3 yX3_readHour yX3_readHour, Cond.code yX3_readHour cX3_readHour 2 (some .boolean), Cond.fieldLink RX3 121 "SharedShadow$Land" "hour" "I"]
def wsX3_read : List Cond := .code yX3_read cX3_read 3 (some .int) :: ((wsX3_read_r1 ++ (wsX3_read_r2 ++ (wsX3_read_r3 ++ (wsX3_read_r4 ++ (wsX3_read_r5 ++ (wsX3_read_r6 ++ (wsX3_read_r7 ++ wsX3_read_r8))))))) ++ wsX30 ++ wsX60 ++ wsX10)
def wsX4_init_r1 : List Cond := [Cond.methodLink RX4 3 objectInit, Cond.instanceMethod objectInit, Cond.code objectInit ⟨#[0xb1]⟩ 1 none, Cond.classLink RX4 9 RX1, Cond.instantiable RX1 12, Cond.initialized RX1, Cond.fieldLink RX4 12 "SharedShadow$Rest" "to" "LSharedShadow$Land;", Cond.arrayClass .int, Cond.fieldLink RX4 18 "SharedShadow$Rest" "have" "[I", Cond.fieldLink RX4 22 "SharedShadow$Rest" "first" "I", Cond.fieldLink RX4 26 "SharedShadow$Rest" "left" "I", Cond.methodLink RX4 11 yX1_init, Cond.instanceMethod yX1_init, Cond.code yX1_init cX1_init 2 none, Cond.methodLink RX1 3 objectInit, Cond.fieldLink RX1 9 "SharedShadow$Land" "kind" "[I", Cond.fieldLink RX1 15 "SharedShadow$Land" "sun" "[I", Cond.fieldLink RX1 18 "SharedShadow$Land" "strength" "[I", Cond.fieldLink RX1 21 "SharedShadow$Land" "needs" "[I", Cond.fieldLink RX1 24 "SharedShadow$Land" "partner" "[I", Cond.fieldLink RX1 27 "SharedShadow$Land" "spots" "[I", Cond.fieldLink RX1 30 "SharedShadow$Land" "people" "I", Cond.constant RX1 34 (65535), Cond.fieldLink RX1 35 "SharedShadow$Land" "lit" "I"]
def wsX4_init_r2 : List Cond := [Cond.fieldLink RX1 38 "SharedShadow$Land" "hour" "I", Cond.fieldLink RX1 41 "SharedShadow$Land" "wereMet" "I", Cond.fieldLink RX1 44 "SharedShadow$Land" "wereMissed" "I", Cond.fieldLink RX1 47 "SharedShadow$Land" "drawn" "I"]
def wsX4_init : List Cond := .code yX4_init cX4_init 1 none :: ((wsX4_init_r1 ++ wsX4_init_r2) ++ wsX10 ++ wsX40)
def wsX4_begin_r1 : List Cond := [Cond.fieldLink RX4 12 "SharedShadow$Rest" "to" "LSharedShadow$Land;", Cond.fieldLink RX4 39 "SharedShadow$Land" "hour" "I", Cond.fieldLink RX4 22 "SharedShadow$Rest" "first" "I", Cond.fieldLink RX4 26 "SharedShadow$Rest" "left" "I", Cond.methodLink RX4 36 yX1_become, Cond.instanceMethod yX1_become, Cond.selects RX1 yX1_become yX1_become, Cond.initialized RX1, Cond.code yX1_become cX1_become 2 none, Cond.fieldLink RX1 9 "SharedShadow$Land" "kind" "[I", Cond.methodLink RX1 50 arraycopyName, Cond.native arraycopyName, Cond.static arraycopyName, Cond.initialized "java/lang/System", Cond.fieldLink RX1 15 "SharedShadow$Land" "sun" "[I", Cond.fieldLink RX1 18 "SharedShadow$Land" "strength" "[I", Cond.fieldLink RX1 21 "SharedShadow$Land" "needs" "[I", Cond.fieldLink RX1 24 "SharedShadow$Land" "partner" "[I", Cond.fieldLink RX1 27 "SharedShadow$Land" "spots" "[I", Cond.fieldLink RX1 30 "SharedShadow$Land" "people" "I", Cond.fieldLink RX1 35 "SharedShadow$Land" "lit" "I", Cond.fieldLink RX1 38 "SharedShadow$Land" "hour" "I", Cond.fieldLink RX1 41 "SharedShadow$Land" "wereMet" "I", Cond.fieldLink RX1 44 "SharedShadow$Land" "wereMissed" "I"]
def wsX4_begin_r2 : List Cond := [Cond.fieldLink RX1 47 "SharedShadow$Land" "drawn" "I", Cond.methodLink RX4 42 yX1_hoursLeft, Cond.instanceMethod yX1_hoursLeft, Cond.selects RX1 yX1_hoursLeft yX1_hoursLeft, Cond.code yX1_hoursLeft cX1_hoursLeft 1 (some .int), Cond.constant RX1 34 (65535)]
def wsX4_begin : List Cond := .code yX4_begin cX4_begin 2 none :: ((wsX4_begin_r1 ++ wsX4_begin_r2) ++ wsX40 ++ wsX10)
def wsX4_run_r1 : List Cond := [Cond.fieldLink RX4 22 "SharedShadow$Rest" "first" "I", Cond.fieldLink RX4 18 "SharedShadow$Rest" "have" "[I", Cond.fieldLink RX4 12 "SharedShadow$Rest" "to" "LSharedShadow$Land;", Cond.methodLink RX4 46 yX1_havers, Cond.instanceMethod yX1_havers, Cond.selects RX1 yX1_havers yX1_havers, Cond.initialized RX1, Cond.code yX1_havers cX1_havers 3 (some .int), Cond.fieldLink RX1 38 "SharedShadow$Land" "hour" "I", Cond.fieldLink RX1 35 "SharedShadow$Land" "lit" "I", Cond.fieldLink RX1 30 "SharedShadow$Land" "people" "I", Cond.fieldLink RX1 24 "SharedShadow$Land" "partner" "[I", Cond.static yX7_bit, Cond.initialized RX7, Cond.code yX7_bit cX7_bit 2 (some .int), Cond.methodLink RX1 93 yX1_stronger, Cond.instanceMethod yX1_stronger, Cond.selects RX1 yX1_stronger yX1_stronger, Cond.code yX1_stronger cX1_stronger 6 (some .int), Cond.methodLink RX1 78 Lib.Math.min.name, Cond.static Lib.Math.min.name, Cond.initialized "java/lang/Math", Cond.code Lib.Math.min.name Lib.Math.min.code 2 (some .int), Cond.methodLink RX1 84 Lib.Math.max.name]
def wsX4_run_r2 : List Cond := [Cond.static Lib.Math.max.name, Cond.code Lib.Math.max.name Lib.Math.max.code 2 (some .int), Cond.methodLink RX1 87 yX1_claimOf, Cond.instanceMethod yX1_claimOf, Cond.selects RX1 yX1_claimOf yX1_claimOf, Cond.code yX1_claimOf cX1_claimOf 5 (some .int), Cond.fieldLink RX1 15 "SharedShadow$Land" "sun" "[I", Cond.fieldLink RX1 9 "SharedShadow$Land" "kind" "[I", Cond.fieldLink RX1 18 "SharedShadow$Land" "strength" "[I", Cond.methodLink RX4 49 yX1_passHour, Cond.instanceMethod yX1_passHour, Cond.selects RX1 yX1_passHour yX1_passHour, Cond.code yX1_passHour cX1_passHour 5 none, Cond.fieldLink RX1 21 "SharedShadow$Land" "needs" "[I", Cond.methodLink RX1 104 yX1_tally, Cond.instanceMethod yX1_tally, Cond.selects RX1 yX1_tally yX1_tally, Cond.code yX1_tally cX1_tally 2 none, Cond.fieldLink RX1 41 "SharedShadow$Land" "wereMet" "I", Cond.fieldLink RX1 44 "SharedShadow$Land" "wereMissed" "I"]
def wsX4_run : List Cond := .code yX4_run cX4_run 2 none :: ((wsX4_run_r1 ++ wsX4_run_r2) ++ wsX40 ++ wsX10)
def wsX4_see_r1 : List Cond := [Cond.methodLink RX4 29 yX4_begin, Cond.instanceMethod yX4_begin, Cond.selects RX4 yX4_begin yX4_begin, Cond.initialized RX4, Cond.code yX4_begin cX4_begin 2 none, Cond.fieldLink RX4 12 "SharedShadow$Rest" "to" "LSharedShadow$Land;", Cond.fieldLink RX4 39 "SharedShadow$Land" "hour" "I", Cond.fieldLink RX4 22 "SharedShadow$Rest" "first" "I", Cond.fieldLink RX4 26 "SharedShadow$Rest" "left" "I", Cond.methodLink RX4 36 yX1_become, Cond.instanceMethod yX1_become, Cond.selects RX1 yX1_become yX1_become, Cond.initialized RX1, Cond.code yX1_become cX1_become 2 none, Cond.fieldLink RX1 9 "SharedShadow$Land" "kind" "[I", Cond.methodLink RX1 50 arraycopyName, Cond.native arraycopyName, Cond.static arraycopyName, Cond.initialized "java/lang/System", Cond.fieldLink RX1 15 "SharedShadow$Land" "sun" "[I", Cond.fieldLink RX1 18 "SharedShadow$Land" "strength" "[I", Cond.fieldLink RX1 21 "SharedShadow$Land" "needs" "[I", Cond.fieldLink RX1 24 "SharedShadow$Land" "partner" "[I", Cond.fieldLink RX1 27 "SharedShadow$Land" "spots" "[I"]
def wsX4_see_r2 : List Cond := [Cond.fieldLink RX1 30 "SharedShadow$Land" "people" "I", Cond.fieldLink RX1 35 "SharedShadow$Land" "lit" "I", Cond.fieldLink RX1 38 "SharedShadow$Land" "hour" "I", Cond.fieldLink RX1 41 "SharedShadow$Land" "wereMet" "I", Cond.fieldLink RX1 44 "SharedShadow$Land" "wereMissed" "I", Cond.fieldLink RX1 47 "SharedShadow$Land" "drawn" "I", Cond.methodLink RX4 42 yX1_hoursLeft, Cond.instanceMethod yX1_hoursLeft, Cond.selects RX1 yX1_hoursLeft yX1_hoursLeft, Cond.code yX1_hoursLeft cX1_hoursLeft 1 (some .int), Cond.constant RX1 34 (65535), Cond.methodLink RX4 33 yX4_run, Cond.instanceMethod yX4_run, Cond.selects RX4 yX4_run yX4_run, Cond.code yX4_run cX4_run 2 none, Cond.fieldLink RX4 18 "SharedShadow$Rest" "have" "[I", Cond.methodLink RX4 46 yX1_havers, Cond.instanceMethod yX1_havers, Cond.selects RX1 yX1_havers yX1_havers, Cond.code yX1_havers cX1_havers 3 (some .int), Cond.static yX7_bit, Cond.initialized RX7, Cond.code yX7_bit cX7_bit 2 (some .int), Cond.methodLink RX1 93 yX1_stronger]
def wsX4_see_r3 : List Cond := [Cond.instanceMethod yX1_stronger, Cond.selects RX1 yX1_stronger yX1_stronger, Cond.code yX1_stronger cX1_stronger 6 (some .int), Cond.methodLink RX1 78 Lib.Math.min.name, Cond.static Lib.Math.min.name, Cond.initialized "java/lang/Math", Cond.code Lib.Math.min.name Lib.Math.min.code 2 (some .int), Cond.methodLink RX1 84 Lib.Math.max.name, Cond.static Lib.Math.max.name, Cond.code Lib.Math.max.name Lib.Math.max.code 2 (some .int), Cond.methodLink RX1 87 yX1_claimOf, Cond.instanceMethod yX1_claimOf, Cond.selects RX1 yX1_claimOf yX1_claimOf, Cond.code yX1_claimOf cX1_claimOf 5 (some .int), Cond.methodLink RX4 49 yX1_passHour, Cond.instanceMethod yX1_passHour, Cond.selects RX1 yX1_passHour yX1_passHour, Cond.code yX1_passHour cX1_passHour 5 none, Cond.methodLink RX1 104 yX1_tally, Cond.instanceMethod yX1_tally, Cond.selects RX1 yX1_tally yX1_tally, Cond.code yX1_tally cX1_tally 2 none]
def wsX4_see : List Cond := .code yX4_see cX4_see 2 none :: ((wsX4_see_r1 ++ (wsX4_see_r2 ++ wsX4_see_r3)) ++ wsX40 ++ wsX10)
def wsX4_shadeOf : List Cond := .code yX4_shadeOf cX4_shadeOf 4 (some .int) :: ([.fieldLink RX4 26 "SharedShadow$Rest" "left" "I", .fieldLink RX4 18 "SharedShadow$Rest" "have" "[I", .static yX7_bit, .initialized RX7, .code yX7_bit cX7_bit 2 (some .int)] ++ wsX40)
def wsX4_servedOf : List Cond := .code yX4_servedOf cX4_servedOf 2 (some .int) :: ([.fieldLink RX4 12 "SharedShadow$Rest" "to" "LSharedShadow$Land;", .fieldLink RX4 57 "SharedShadow$Land" "needs" "[I", .fieldLink RX4 60 "SharedShadow$Land" "lit" "I", .fieldLink RX4 26 "SharedShadow$Rest" "left" "I", .methodLink RX4 63 yX4_shadeOf, .instanceMethod yX4_shadeOf, .selects RX4 yX4_shadeOf yX4_shadeOf, .initialized RX4, .code yX4_shadeOf cX4_shadeOf 4 (some .int), .fieldLink RX4 18 "SharedShadow$Rest" "have" "[I", .static yX7_bit, .initialized RX7, .code yX7_bit cX7_bit 2 (some .int)] ++ wsX40 ++ wsX10)
def wsX4_metOf_r1 : List Cond := [Cond.fieldLink RX4 12 "SharedShadow$Rest" "to" "LSharedShadow$Land;", Cond.fieldLink RX4 57 "SharedShadow$Land" "needs" "[I", Cond.methodLink RX4 67 yX1_isPerson, Cond.instanceMethod yX1_isPerson, Cond.selects RX1 yX1_isPerson yX1_isPerson, Cond.initialized RX1, Cond.code yX1_isPerson cX1_isPerson 2 (some .boolean), Cond.fieldLink RX1 30 "SharedShadow$Land" "people" "I", Cond.methodLink RX4 71 yX4_servedOf, Cond.instanceMethod yX4_servedOf, Cond.selects RX4 yX4_servedOf yX4_servedOf, Cond.initialized RX4, Cond.code yX4_servedOf cX4_servedOf 2 (some .int), Cond.fieldLink RX4 60 "SharedShadow$Land" "lit" "I", Cond.fieldLink RX4 26 "SharedShadow$Rest" "left" "I", Cond.methodLink RX4 63 yX4_shadeOf, Cond.instanceMethod yX4_shadeOf, Cond.selects RX4 yX4_shadeOf yX4_shadeOf, Cond.code yX4_shadeOf cX4_shadeOf 4 (some .int), Cond.fieldLink RX4 18 "SharedShadow$Rest" "have" "[I", Cond.static yX7_bit, Cond.initialized RX7, Cond.code yX7_bit cX7_bit 2 (some .int), Cond.methodLink RX4 74 yJ6_bitCount_0f7a4]
def wsX4_metOf_r2 : List Cond := [Cond.static yJ6_bitCount_0f7a4, Cond.initialized RJ6, Cond.code yJ6_bitCount_0f7a4 cJ6_bitCount_0f7a4 1 (some .int), Cond.constant RJ6 265 (1431655765), Cond.constant RJ6 266 (858993459), Cond.constant RJ6 267 (252645135)]
def wsX4_metOf : List Cond := .code yX4_metOf cX4_metOf 2 (some .int) :: ((wsX4_metOf_r1 ++ wsX4_metOf_r2) ++ wsX40 ++ wsX10)
def wsX4_metOfAll_r1 : List Cond := [Cond.fieldLink RX4 12 "SharedShadow$Rest" "to" "LSharedShadow$Land;", Cond.fieldLink RX4 79 "SharedShadow$Land" "people" "I", Cond.methodLink RX4 82 yX4_metOf, Cond.instanceMethod yX4_metOf, Cond.selects RX4 yX4_metOf yX4_metOf, Cond.initialized RX4, Cond.code yX4_metOf cX4_metOf 2 (some .int), Cond.fieldLink RX4 57 "SharedShadow$Land" "needs" "[I", Cond.methodLink RX4 67 yX1_isPerson, Cond.instanceMethod yX1_isPerson, Cond.selects RX1 yX1_isPerson yX1_isPerson, Cond.initialized RX1, Cond.code yX1_isPerson cX1_isPerson 2 (some .boolean), Cond.fieldLink RX1 30 "SharedShadow$Land" "people" "I", Cond.methodLink RX4 71 yX4_servedOf, Cond.instanceMethod yX4_servedOf, Cond.selects RX4 yX4_servedOf yX4_servedOf, Cond.code yX4_servedOf cX4_servedOf 2 (some .int), Cond.fieldLink RX4 60 "SharedShadow$Land" "lit" "I", Cond.fieldLink RX4 26 "SharedShadow$Rest" "left" "I", Cond.methodLink RX4 63 yX4_shadeOf, Cond.instanceMethod yX4_shadeOf, Cond.selects RX4 yX4_shadeOf yX4_shadeOf, Cond.code yX4_shadeOf cX4_shadeOf 4 (some .int)]
def wsX4_metOfAll_r2 : List Cond := [Cond.fieldLink RX4 18 "SharedShadow$Rest" "have" "[I", Cond.static yX7_bit, Cond.initialized RX7, Cond.code yX7_bit cX7_bit 2 (some .int), Cond.methodLink RX4 74 yJ6_bitCount_0f7a4, Cond.static yJ6_bitCount_0f7a4, Cond.initialized RJ6, Cond.code yJ6_bitCount_0f7a4 cJ6_bitCount_0f7a4 1 (some .int), Cond.constant RJ6 265 (1431655765), Cond.constant RJ6 266 (858993459), Cond.constant RJ6 267 (252645135)]
def wsX4_metOfAll : List Cond := .code yX4_metOfAll cX4_metOfAll 3 (some .int) :: ((wsX4_metOfAll_r1 ++ wsX4_metOfAll_r2) ++ wsX40 ++ wsX10)
def wsX4_firstCold : List Cond := .code yX4_firstCold cX4_firstCold 4 (some .int) :: ([.fieldLink RX4 12 "SharedShadow$Rest" "to" "LSharedShadow$Land;", .fieldLink RX4 26 "SharedShadow$Rest" "left" "I", .methodLink RX4 67 yX1_isPerson, .instanceMethod yX1_isPerson, .selects RX1 yX1_isPerson yX1_isPerson, .initialized RX1, .code yX1_isPerson cX1_isPerson 2 (some .boolean), .fieldLink RX1 30 "SharedShadow$Land" "people" "I", .methodLink RX4 71 yX4_servedOf, .instanceMethod yX4_servedOf, .selects RX4 yX4_servedOf yX4_servedOf, .initialized RX4, .code yX4_servedOf cX4_servedOf 2 (some .int), .fieldLink RX4 57 "SharedShadow$Land" "needs" "[I", .fieldLink RX4 60 "SharedShadow$Land" "lit" "I", .methodLink RX4 63 yX4_shadeOf, .instanceMethod yX4_shadeOf, .selects RX4 yX4_shadeOf yX4_shadeOf, .code yX4_shadeOf cX4_shadeOf 4 (some .int), .fieldLink RX4 18 "SharedShadow$Rest" "have" "[I", .static yX7_bit, .initialized RX7, .code yX7_bit cX7_bit 2 (some .int)] ++ wsX40 ++ wsX10)
def wsX4_sunOf : List Cond := .code yX4_sunOf cX4_sunOf 2 (some .int) :: ([.fieldLink RX4 12 "SharedShadow$Rest" "to" "LSharedShadow$Land;", .fieldLink RX4 85 "SharedShadow$Land" "sun" "[I", .methodLink RX4 67 yX1_isPerson, .instanceMethod yX1_isPerson, .selects RX1 yX1_isPerson yX1_isPerson, .initialized RX1, .code yX1_isPerson cX1_isPerson 2 (some .boolean), .fieldLink RX1 30 "SharedShadow$Land" "people" "I"] ++ wsX40 ++ wsX10)
def wsX4_isShadowSet : List Cond := .code yX4_isShadowSet cX4_isShadowSet 3 (some .boolean) :: ([.fieldLink RX4 22 "SharedShadow$Rest" "first" "I", .fieldLink RX4 18 "SharedShadow$Rest" "have" "[I"] ++ wsX40)
def wsX4_isShadeOf : List Cond := .code yX4_isShadeOf cX4_isShadeOf 4 (some .boolean) :: ([.fieldLink RX4 22 "SharedShadow$Rest" "first" "I", .fieldLink RX4 88 "SharedShadow$Sheet" "length" "I", .fieldLink RX4 18 "SharedShadow$Rest" "have" "[I", .fieldLink RX4 93 "SharedShadow$Sheet" "numbers" "[I", .static yX7_bit, .initialized RX7, .code yX7_bit cX7_bit 2 (some .int)] ++ wsX40 ++ wsX50)
def wsX5_init : List Cond := .code yX5_init cX5_init 1 none :: ([.methodLink RX5 3 objectInit, .instanceMethod objectInit, .code objectInit ⟨#[0xb1]⟩ 1 none, .arrayClass .int, .fieldLink RX5 9 "SharedShadow$Sheet" "numbers" "[I", .fieldLink RX5 15 "SharedShadow$Sheet" "bits" "I", .fieldLink RX5 19 "SharedShadow$Sheet" "length" "I"] ++ wsX50)
def wsX5_isMissing : List Cond := .code yX5_isMissing cX5_isMissing 1 (some .boolean) :: ([.fieldLink RX5 15 "SharedShadow$Sheet" "bits" "I"] ++ wsX50)
def wsX5_renew : List Cond := .code yX5_renew cX5_renew 4 none :: ([.fieldLink RX5 15 "SharedShadow$Sheet" "bits" "I", .methodLink RX5 22 Lib.Math.min.name, .static Lib.Math.min.name, .initialized "java/lang/Math", .code Lib.Math.min.name Lib.Math.min.code 2 (some .int), .methodLink RX5 28 Lib.Math.max.name, .static Lib.Math.max.name, .code Lib.Math.max.name Lib.Math.max.code 2 (some .int), .fieldLink RX5 19 "SharedShadow$Sheet" "length" "I", .fieldLink RX5 9 "SharedShadow$Sheet" "numbers" "[I"] ++ wsX50)
def wsX5_put : List Cond := .code yX5_put cX5_put 3 none :: ([.fieldLink RX5 19 "SharedShadow$Sheet" "length" "I", .fieldLink RX5 9 "SharedShadow$Sheet" "numbers" "[I", .fieldLink RX5 15 "SharedShadow$Sheet" "bits" "I", .static yX7_isWithin, .initialized RX7, .code yX7_isWithin cX7_isWithin 2 (some .boolean)] ++ wsX50)
def wsX5_hasRun : List Cond := .code yX5_hasRun cX5_hasRun 3 (some .boolean) :: ([.fieldLink RX5 19 "SharedShadow$Sheet" "length" "I"] ++ wsX50)
def wsX5_tellsSetsOf : List Cond := .code yX5_tellsSetsOf cX5_tellsSetsOf 4 (some .boolean) :: ([.fieldLink RX5 19 "SharedShadow$Sheet" "length" "I", .fieldLink RX5 9 "SharedShadow$Sheet" "numbers" "[I"] ++ wsX50)
def wsX6_append : List Cond := .code yX6_append cX6_append 2 none :: ([.fieldLink RX6 13 "SharedShadow$Tape" "length" "I", .fieldLink RX6 9 "SharedShadow$Tape" "bytes" "[I"] ++ wsX60)
def wsX7_init_r1 : List Cond := [Cond.methodLink RX7 1 objectInit, Cond.instanceMethod objectInit, Cond.code objectInit ⟨#[0xb1]⟩ 1 none, Cond.classLink RX7 7 RX1, Cond.instantiable RX1 12, Cond.initialized RX1, Cond.fieldLink RX7 10 "SharedShadow" "land" "LSharedShadow$Land;", Cond.fieldLink RX7 16 "SharedShadow" "kept" "LSharedShadow$Land;", Cond.classLink RX7 19 RX4, Cond.instantiable RX4 4, Cond.initialized RX4, Cond.fieldLink RX7 22 "SharedShadow" "rest" "LSharedShadow$Rest;", Cond.classLink RX7 26 RX0, Cond.instantiable RX0 6, Cond.initialized RX0, Cond.fieldLink RX7 29 "SharedShadow" "agreement" "LSharedShadow$Agreement;", Cond.classLink RX7 33 RX2, Cond.instantiable RX2 3, Cond.initialized RX2, Cond.fieldLink RX7 36 "SharedShadow" "pairings" "LSharedShadow$Pairings;", Cond.classLink RX7 40 RX3, Cond.instantiable RX3 8, Cond.initialized RX3, Cond.fieldLink RX7 43 "SharedShadow" "reader" "LSharedShadow$Reader;"]
def wsX7_init_r2 : List Cond := [Cond.fieldLink RX7 47 "SharedShadow$Reader" "tape" "LSharedShadow$Tape;", Cond.fieldLink RX7 51 "SharedShadow" "tape" "LSharedShadow$Tape;", Cond.classLink RX7 52 RX5, Cond.fieldLink RX7 54 "SharedShadow" "sheets" "[LSharedShadow$Sheet;", Cond.arrayClass .int, Cond.fieldLink RX7 58 "SharedShadow" "findings" "[I", Cond.fieldLink RX7 62 "SharedShadow" "isKept" "Z", Cond.instantiable RX5 3, Cond.initialized RX5, Cond.methodLink RX7 9 yX1_init, Cond.instanceMethod yX1_init, Cond.code yX1_init cX1_init 2 none, Cond.methodLink RX1 3 objectInit, Cond.fieldLink RX1 9 "SharedShadow$Land" "kind" "[I", Cond.fieldLink RX1 15 "SharedShadow$Land" "sun" "[I", Cond.fieldLink RX1 18 "SharedShadow$Land" "strength" "[I", Cond.fieldLink RX1 21 "SharedShadow$Land" "needs" "[I", Cond.fieldLink RX1 24 "SharedShadow$Land" "partner" "[I", Cond.fieldLink RX1 27 "SharedShadow$Land" "spots" "[I", Cond.fieldLink RX1 30 "SharedShadow$Land" "people" "I", Cond.constant RX1 34 (65535), Cond.fieldLink RX1 35 "SharedShadow$Land" "lit" "I", Cond.fieldLink RX1 38 "SharedShadow$Land" "hour" "I", Cond.fieldLink RX1 41 "SharedShadow$Land" "wereMet" "I"]
def wsX7_init_r3 : List Cond := [Cond.fieldLink RX1 44 "SharedShadow$Land" "wereMissed" "I", Cond.fieldLink RX1 47 "SharedShadow$Land" "drawn" "I", Cond.instanceMethod yX4_init, Cond.code yX4_init cX4_init 1 none, Cond.methodLink RX4 3 objectInit, Cond.classLink RX4 9 RX1, Cond.fieldLink RX4 12 "SharedShadow$Rest" "to" "LSharedShadow$Land;", Cond.fieldLink RX4 18 "SharedShadow$Rest" "have" "[I", Cond.fieldLink RX4 22 "SharedShadow$Rest" "first" "I", Cond.fieldLink RX4 26 "SharedShadow$Rest" "left" "I", Cond.methodLink RX4 11 yX1_init, Cond.instanceMethod yX0_init, Cond.code yX0_init cX0_init 1 none, Cond.methodLink RX0 3 objectInit, Cond.fieldLink RX0 9 "SharedShadow$Agreement" "who" "[I", Cond.fieldLink RX0 15 "SharedShadow$Agreement" "needs" "[I", Cond.fieldLink RX0 18 "SharedShadow$Agreement" "held" "[I", Cond.fieldLink RX0 21 "SharedShadow$Agreement" "behind" "[I", Cond.fieldLink RX0 24 "SharedShadow$Agreement" "shared" "I", Cond.fieldLink RX0 28 "SharedShadow$Agreement" "dark" "I", Cond.instanceMethod yX2_init, Cond.code yX2_init cX2_init 1 none, Cond.methodLink RX2 3 objectInit, Cond.fieldLink RX2 9 "SharedShadow$Pairings" "values" "[I"]
def wsX7_init_r4 : List Cond := [Cond.fieldLink RX2 15 "SharedShadow$Pairings" "best" "[I", Cond.fieldLink RX2 18 "SharedShadow$Pairings" "number" "[I", Cond.instanceMethod yX3_init, Cond.code yX3_init cX3_init 1 none, Cond.methodLink RX3 5 objectInit, Cond.classLink RX3 1 RX6, Cond.instantiable RX6 2, Cond.initialized RX6, Cond.fieldLink RX3 12 "SharedShadow$Reader" "tape" "LSharedShadow$Tape;", Cond.classLink RX3 18 RX1, Cond.fieldLink RX3 21 "SharedShadow$Reader" "draft" "LSharedShadow$Land;", Cond.fieldLink RX3 25 "SharedShadow$Reader" "types" "[I", Cond.fieldLink RX3 29 "SharedShadow$Reader" "places" "[I", Cond.fieldLink RX3 32 "SharedShadow$Reader" "ends" "[I", Cond.fieldLink RX3 35 "SharedShadow$Reader" "values" "[I", Cond.fieldLink RX3 38 "SharedShadow$Reader" "tokens" "I", Cond.fieldLink RX3 42 "SharedShadow$Reader" "next" "I", Cond.instanceMethod yX6_init, Cond.code yX6_init cX6_init 1 none, Cond.methodLink RX6 1 objectInit, Cond.fieldLink RX6 9 "SharedShadow$Tape" "bytes" "[I", Cond.fieldLink RX6 13 "SharedShadow$Tape" "length" "I", Cond.methodLink RX3 20 yX1_init, Cond.instanceMethod yX5_init]
def wsX7_init_r5 : List Cond := [Cond.code yX5_init cX5_init 1 none, Cond.methodLink RX5 3 objectInit, Cond.fieldLink RX5 9 "SharedShadow$Sheet" "numbers" "[I", Cond.fieldLink RX5 15 "SharedShadow$Sheet" "bits" "I", Cond.fieldLink RX5 19 "SharedShadow$Sheet" "length" "I"]
def wsX7_init : List Cond := .code yX7_init cX7_init 2 none :: ((wsX7_init_r1 ++ (wsX7_init_r2 ++ (wsX7_init_r3 ++ (wsX7_init_r4 ++ wsX7_init_r5)))) ++ wsX10 ++ wsX70 ++ wsX40 ++ wsX00 ++ wsX20 ++ wsX30 ++ wsX50 ++ wsX60)
def wsX7_found : List Cond := .code yX7_found cX7_found 2 (some .int) :: ([.fieldLink RX7 58 "SharedShadow" "findings" "[I", .constant RX7 306 (-1000001)] ++ wsX70)
def wsX7_person_r1 : List Cond := [Cond.fieldLink RX7 10 "SharedShadow" "land" "LSharedShadow$Land;", Cond.methodLink RX7 67 yX7_isWithin, Cond.static yX7_isWithin, Cond.initialized RX7, Cond.code yX7_isWithin cX7_isWithin 2 (some .boolean), Cond.methodLink RX7 71 yX7_found, Cond.instanceMethod yX7_found, Cond.selects RX7 yX7_found yX7_found, Cond.code yX7_found cX7_found 2 (some .int), Cond.fieldLink RX7 58 "SharedShadow" "findings" "[I", Cond.constant RX7 306 (-1000001), Cond.methodLink RX7 75 yX1_isFull, Cond.instanceMethod yX1_isFull, Cond.selects RX1 yX1_isFull yX1_isFull, Cond.initialized RX1, Cond.code yX1_isFull cX1_isFull 1 (some .boolean), Cond.fieldLink RX1 30 "SharedShadow$Land" "people" "I", Cond.methodLink RX7 79 yX1_add, Cond.instanceMethod yX1_add, Cond.selects RX1 yX1_add yX1_add, Cond.code yX1_add cX1_add 2 (some .int), Cond.fieldLink RX1 9 "SharedShadow$Land" "kind" "[I", Cond.fieldLink RX1 15 "SharedShadow$Land" "sun" "[I", Cond.fieldLink RX1 18 "SharedShadow$Land" "strength" "[I"]
def wsX7_person_r2 : List Cond := [Cond.fieldLink RX1 21 "SharedShadow$Land" "needs" "[I", Cond.fieldLink RX1 24 "SharedShadow$Land" "partner" "[I", Cond.methodLink RX1 60 yX1_isFull]
def wsX7_person : List Cond := .code yX7_person cX7_person 2 (some .int) :: ((wsX7_person_r1 ++ wsX7_person_r2) ++ wsX70 ++ wsX10)
def wsX7_of_r1 : List Cond := [Cond.fieldLink RX7 10 "SharedShadow" "land" "LSharedShadow$Land;", Cond.fieldLink RX7 86 "SharedShadow$Land" "kind" "[I", Cond.fieldLink RX7 89 "SharedShadow$Land" "sun" "[I", Cond.fieldLink RX7 92 "SharedShadow$Land" "strength" "[I", Cond.fieldLink RX7 95 "SharedShadow$Land" "needs" "[I", Cond.fieldLink RX7 98 "SharedShadow$Land" "partner" "[I", Cond.fieldLink RX7 101 "SharedShadow$Land" "hour" "I", Cond.methodLink RX7 82 yX1_isPerson, Cond.instanceMethod yX1_isPerson, Cond.selects RX1 yX1_isPerson yX1_isPerson, Cond.initialized RX1, Cond.code yX1_isPerson cX1_isPerson 2 (some .boolean), Cond.fieldLink RX1 30 "SharedShadow$Land" "people" "I", Cond.methodLink RX7 71 yX7_found, Cond.instanceMethod yX7_found, Cond.selects RX7 yX7_found yX7_found, Cond.initialized RX7, Cond.code yX7_found cX7_found 2 (some .int), Cond.fieldLink RX7 58 "SharedShadow" "findings" "[I", Cond.constant RX7 306 (-1000001), Cond.methodLink RX7 105 yX1_claimOf, Cond.instanceMethod yX1_claimOf, Cond.selects RX1 yX1_claimOf yX1_claimOf, Cond.code yX1_claimOf cX1_claimOf 5 (some .int)]
def wsX7_of_r2 : List Cond := [Cond.fieldLink RX1 15 "SharedShadow$Land" "sun" "[I", Cond.fieldLink RX1 9 "SharedShadow$Land" "kind" "[I", Cond.fieldLink RX1 18 "SharedShadow$Land" "strength" "[I", Cond.methodLink RX7 109 yX1_havers, Cond.instanceMethod yX1_havers, Cond.selects RX1 yX1_havers yX1_havers, Cond.code yX1_havers cX1_havers 3 (some .int), Cond.fieldLink RX1 38 "SharedShadow$Land" "hour" "I", Cond.fieldLink RX1 35 "SharedShadow$Land" "lit" "I", Cond.fieldLink RX1 24 "SharedShadow$Land" "partner" "[I", Cond.static yX7_bit, Cond.code yX7_bit cX7_bit 2 (some .int), Cond.methodLink RX1 93 yX1_stronger, Cond.instanceMethod yX1_stronger, Cond.selects RX1 yX1_stronger yX1_stronger, Cond.code yX1_stronger cX1_stronger 6 (some .int), Cond.methodLink RX1 78 Lib.Math.min.name, Cond.static Lib.Math.min.name, Cond.initialized "java/lang/Math", Cond.code Lib.Math.min.name Lib.Math.min.code 2 (some .int), Cond.methodLink RX1 84 Lib.Math.max.name, Cond.static Lib.Math.max.name, Cond.code Lib.Math.max.name Lib.Math.max.code 2 (some .int), Cond.methodLink RX1 87 yX1_claimOf]
def wsX7_of_r3 : List Cond := [Cond.methodLink RX7 113 yX7_bit]
def wsX7_of : List Cond := .code yX7_of cX7_of 3 (some .int) :: ((wsX7_of_r1 ++ (wsX7_of_r2 ++ wsX7_of_r3)) ++ wsX70 ++ wsX10)
def wsX7_replace : List Cond := .code yX7_replace cX7_replace 6 (some .int) :: ([.methodLink RX7 67 yX7_isWithin, .static yX7_isWithin, .initialized RX7, .code yX7_isWithin cX7_isWithin 2 (some .boolean), .methodLink RX7 71 yX7_found, .instanceMethod yX7_found, .selects RX7 yX7_found yX7_found, .code yX7_found cX7_found 2 (some .int), .fieldLink RX7 58 "SharedShadow" "findings" "[I", .constant RX7 306 (-1000001)] ++ wsX70)
def wsX7_change_r1 : List Cond := [Cond.fieldLink RX7 10 "SharedShadow" "land" "LSharedShadow$Land;", Cond.fieldLink RX7 86 "SharedShadow$Land" "kind" "[I", Cond.fieldLink RX7 89 "SharedShadow$Land" "sun" "[I", Cond.fieldLink RX7 92 "SharedShadow$Land" "strength" "[I", Cond.fieldLink RX7 95 "SharedShadow$Land" "needs" "[I", Cond.constant RX7 120 (65535), Cond.methodLink RX7 82 yX1_isPerson, Cond.instanceMethod yX1_isPerson, Cond.selects RX1 yX1_isPerson yX1_isPerson, Cond.initialized RX1, Cond.code yX1_isPerson cX1_isPerson 2 (some .boolean), Cond.fieldLink RX1 30 "SharedShadow$Land" "people" "I", Cond.methodLink RX7 71 yX7_found, Cond.instanceMethod yX7_found, Cond.selects RX7 yX7_found yX7_found, Cond.initialized RX7, Cond.code yX7_found cX7_found 2 (some .int), Cond.fieldLink RX7 58 "SharedShadow" "findings" "[I", Cond.constant RX7 306 (-1000001), Cond.methodLink RX7 116 yX7_replace, Cond.instanceMethod yX7_replace, Cond.selects RX7 yX7_replace yX7_replace, Cond.code yX7_replace cX7_replace 6 (some .int), Cond.methodLink RX7 67 yX7_isWithin]
def wsX7_change_r2 : List Cond := [Cond.static yX7_isWithin, Cond.code yX7_isWithin cX7_isWithin 2 (some .boolean)]
def wsX7_change : List Cond := .code yX7_change cX7_change 4 (some .int) :: ((wsX7_change_r1 ++ wsX7_change_r2) ++ wsX70 ++ wsX10)
def wsX7_share_r1 : List Cond := [Cond.fieldLink RX7 10 "SharedShadow" "land" "LSharedShadow$Land;", Cond.fieldLink RX7 98 "SharedShadow$Land" "partner" "[I", Cond.methodLink RX7 121 yX1_areTwo, Cond.instanceMethod yX1_areTwo, Cond.selects RX1 yX1_areTwo yX1_areTwo, Cond.initialized RX1, Cond.code yX1_areTwo cX1_areTwo 3 (some .boolean), Cond.methodLink RX1 56 yX1_isPerson, Cond.instanceMethod yX1_isPerson, Cond.selects RX1 yX1_isPerson yX1_isPerson, Cond.code yX1_isPerson cX1_isPerson 2 (some .boolean), Cond.fieldLink RX1 30 "SharedShadow$Land" "people" "I", Cond.methodLink RX7 71 yX7_found, Cond.instanceMethod yX7_found, Cond.selects RX7 yX7_found yX7_found, Cond.initialized RX7, Cond.code yX7_found cX7_found 2 (some .int), Cond.fieldLink RX7 58 "SharedShadow" "findings" "[I", Cond.constant RX7 306 (-1000001), Cond.methodLink RX7 124 yX1_join, Cond.instanceMethod yX1_join, Cond.selects RX1 yX1_join yX1_join, Cond.code yX1_join cX1_join 3 none, Cond.fieldLink RX1 24 "SharedShadow$Land" "partner" "[I"]
def wsX7_share_r2 : List Cond := [Cond.methodLink RX1 64 yX1_areTwo, Cond.methodLink RX1 68 yX1_separate, Cond.instanceMethod yX1_separate, Cond.selects RX1 yX1_separate yX1_separate, Cond.code yX1_separate cX1_separate 2 none]
def wsX7_share : List Cond := .code yX7_share cX7_share 3 (some .int) :: ((wsX7_share_r1 ++ wsX7_share_r2) ++ wsX70 ++ wsX10)
def wsX7_part : List Cond := .code yX7_part cX7_part 3 (some .int) :: ([.fieldLink RX7 10 "SharedShadow" "land" "LSharedShadow$Land;", .fieldLink RX7 98 "SharedShadow$Land" "partner" "[I", .methodLink RX7 82 yX1_isPerson, .instanceMethod yX1_isPerson, .selects RX1 yX1_isPerson yX1_isPerson, .initialized RX1, .code yX1_isPerson cX1_isPerson 2 (some .boolean), .fieldLink RX1 30 "SharedShadow$Land" "people" "I", .methodLink RX7 71 yX7_found, .instanceMethod yX7_found, .selects RX7 yX7_found yX7_found, .initialized RX7, .code yX7_found cX7_found 2 (some .int), .fieldLink RX7 58 "SharedShadow" "findings" "[I", .constant RX7 306 (-1000001), .methodLink RX7 128 yX1_separate, .instanceMethod yX1_separate, .selects RX1 yX1_separate yX1_separate, .code yX1_separate cX1_separate 2 none, .fieldLink RX1 24 "SharedShadow$Land" "partner" "[I", .methodLink RX1 56 yX1_isPerson] ++ wsX70 ++ wsX10)
def wsX7_light : List Cond := .code yX7_light cX7_light 3 (some .int) :: ([.constant RX7 120 (65535), .fieldLink RX7 10 "SharedShadow" "land" "LSharedShadow$Land;", .fieldLink RX7 132 "SharedShadow$Land" "lit" "I", .methodLink RX7 67 yX7_isWithin, .static yX7_isWithin, .initialized RX7, .code yX7_isWithin cX7_isWithin 2 (some .boolean), .methodLink RX7 71 yX7_found, .instanceMethod yX7_found, .selects RX7 yX7_found yX7_found, .code yX7_found cX7_found 2 (some .int), .fieldLink RX7 58 "SharedShadow" "findings" "[I", .constant RX7 306 (-1000001)] ++ wsX70 ++ wsX10)
def wsX7_claim : List Cond := .code yX7_claim cX7_claim 3 (some .int) :: ([.fieldLink RX7 10 "SharedShadow" "land" "LSharedShadow$Land;", .methodLink RX7 82 yX1_isPerson, .instanceMethod yX1_isPerson, .selects RX1 yX1_isPerson yX1_isPerson, .initialized RX1, .code yX1_isPerson cX1_isPerson 2 (some .boolean), .fieldLink RX1 30 "SharedShadow$Land" "people" "I", .methodLink RX7 67 yX7_isWithin, .static yX7_isWithin, .initialized RX7, .code yX7_isWithin cX7_isWithin 2 (some .boolean), .methodLink RX7 71 yX7_found, .instanceMethod yX7_found, .selects RX7 yX7_found yX7_found, .code yX7_found cX7_found 2 (some .int), .fieldLink RX7 58 "SharedShadow" "findings" "[I", .constant RX7 306 (-1000001), .methodLink RX7 105 yX1_claimOf, .instanceMethod yX1_claimOf, .selects RX1 yX1_claimOf yX1_claimOf, .code yX1_claimOf cX1_claimOf 5 (some .int), .fieldLink RX1 15 "SharedShadow$Land" "sun" "[I", .fieldLink RX1 9 "SharedShadow$Land" "kind" "[I", .fieldLink RX1 18 "SharedShadow$Land" "strength" "[I"] ++ wsX70 ++ wsX10)
def wsX7_go_r1 : List Cond := [Cond.fieldLink RX7 10 "SharedShadow" "land" "LSharedShadow$Land;", Cond.fieldLink RX7 101 "SharedShadow$Land" "hour" "I", Cond.fieldLink RX7 138 "SharedShadow$Land" "wereMet" "I", Cond.methodLink RX7 71 yX7_found, Cond.instanceMethod yX7_found, Cond.selects RX7 yX7_found yX7_found, Cond.initialized RX7, Cond.code yX7_found cX7_found 2 (some .int), Cond.fieldLink RX7 58 "SharedShadow" "findings" "[I", Cond.constant RX7 306 (-1000001), Cond.methodLink RX7 135 yX1_passHours, Cond.instanceMethod yX1_passHours, Cond.selects RX1 yX1_passHours yX1_passHours, Cond.initialized RX1, Cond.code yX1_passHours cX1_passHours 3 none, Cond.fieldLink RX1 38 "SharedShadow$Land" "hour" "I", Cond.methodLink RX1 97 yX1_havers, Cond.instanceMethod yX1_havers, Cond.selects RX1 yX1_havers yX1_havers, Cond.code yX1_havers cX1_havers 3 (some .int), Cond.fieldLink RX1 35 "SharedShadow$Land" "lit" "I", Cond.fieldLink RX1 30 "SharedShadow$Land" "people" "I", Cond.fieldLink RX1 24 "SharedShadow$Land" "partner" "[I", Cond.static yX7_bit]
def wsX7_go_r2 : List Cond := [Cond.code yX7_bit cX7_bit 2 (some .int), Cond.methodLink RX1 93 yX1_stronger, Cond.instanceMethod yX1_stronger, Cond.selects RX1 yX1_stronger yX1_stronger, Cond.code yX1_stronger cX1_stronger 6 (some .int), Cond.methodLink RX1 78 Lib.Math.min.name, Cond.static Lib.Math.min.name, Cond.initialized "java/lang/Math", Cond.code Lib.Math.min.name Lib.Math.min.code 2 (some .int), Cond.methodLink RX1 84 Lib.Math.max.name, Cond.static Lib.Math.max.name, Cond.code Lib.Math.max.name Lib.Math.max.code 2 (some .int), Cond.methodLink RX1 87 yX1_claimOf, Cond.instanceMethod yX1_claimOf, Cond.selects RX1 yX1_claimOf yX1_claimOf, Cond.code yX1_claimOf cX1_claimOf 5 (some .int), Cond.fieldLink RX1 15 "SharedShadow$Land" "sun" "[I", Cond.fieldLink RX1 9 "SharedShadow$Land" "kind" "[I", Cond.fieldLink RX1 18 "SharedShadow$Land" "strength" "[I", Cond.methodLink RX1 101 yX1_passHour, Cond.instanceMethod yX1_passHour, Cond.selects RX1 yX1_passHour yX1_passHour, Cond.code yX1_passHour cX1_passHour 5 none, Cond.fieldLink RX1 21 "SharedShadow$Land" "needs" "[I"]
def wsX7_go_r3 : List Cond := [Cond.methodLink RX1 104 yX1_tally, Cond.instanceMethod yX1_tally, Cond.selects RX1 yX1_tally yX1_tally, Cond.code yX1_tally cX1_tally 2 none, Cond.fieldLink RX1 41 "SharedShadow$Land" "wereMet" "I", Cond.fieldLink RX1 44 "SharedShadow$Land" "wereMissed" "I"]
def wsX7_go : List Cond := .code yX7_go cX7_go 2 (some .int) :: ((wsX7_go_r1 ++ (wsX7_go_r2 ++ wsX7_go_r3)) ++ wsX70 ++ wsX10)
def wsX7_at : List Cond := .code yX7_at cX7_at 3 (some .int) :: ([.fieldLink RX7 10 "SharedShadow" "land" "LSharedShadow$Land;", .fieldLink RX7 101 "SharedShadow$Land" "hour" "I", .methodLink RX7 67 yX7_isWithin, .static yX7_isWithin, .initialized RX7, .code yX7_isWithin cX7_isWithin 2 (some .boolean), .methodLink RX7 71 yX7_found, .instanceMethod yX7_found, .selects RX7 yX7_found yX7_found, .code yX7_found cX7_found 2 (some .int), .fieldLink RX7 58 "SharedShadow" "findings" "[I", .constant RX7 306 (-1000001)] ++ wsX70 ++ wsX10)
def wsX7_now_r1 : List Cond := [Cond.fieldLink RX7 10 "SharedShadow" "land" "LSharedShadow$Land;", Cond.fieldLink RX7 101 "SharedShadow$Land" "hour" "I", Cond.fieldLink RX7 138 "SharedShadow$Land" "wereMet" "I", Cond.fieldLink RX7 141 "SharedShadow$Land" "wereMissed" "I", Cond.fieldLink RX7 132 "SharedShadow$Land" "lit" "I", Cond.methodLink RX7 109 yX1_havers, Cond.instanceMethod yX1_havers, Cond.selects RX1 yX1_havers yX1_havers, Cond.initialized RX1, Cond.code yX1_havers cX1_havers 3 (some .int), Cond.fieldLink RX1 38 "SharedShadow$Land" "hour" "I", Cond.fieldLink RX1 35 "SharedShadow$Land" "lit" "I", Cond.fieldLink RX1 30 "SharedShadow$Land" "people" "I", Cond.fieldLink RX1 24 "SharedShadow$Land" "partner" "[I", Cond.static yX7_bit, Cond.initialized RX7, Cond.code yX7_bit cX7_bit 2 (some .int), Cond.methodLink RX1 93 yX1_stronger, Cond.instanceMethod yX1_stronger, Cond.selects RX1 yX1_stronger yX1_stronger, Cond.code yX1_stronger cX1_stronger 6 (some .int), Cond.methodLink RX1 78 Lib.Math.min.name, Cond.static Lib.Math.min.name, Cond.initialized "java/lang/Math"]
def wsX7_now_r2 : List Cond := [Cond.code Lib.Math.min.name Lib.Math.min.code 2 (some .int), Cond.methodLink RX1 84 Lib.Math.max.name, Cond.static Lib.Math.max.name, Cond.code Lib.Math.max.name Lib.Math.max.code 2 (some .int), Cond.methodLink RX1 87 yX1_claimOf, Cond.instanceMethod yX1_claimOf, Cond.selects RX1 yX1_claimOf yX1_claimOf, Cond.code yX1_claimOf cX1_claimOf 5 (some .int), Cond.fieldLink RX1 15 "SharedShadow$Land" "sun" "[I", Cond.fieldLink RX1 9 "SharedShadow$Land" "kind" "[I", Cond.fieldLink RX1 18 "SharedShadow$Land" "strength" "[I", Cond.methodLink RX7 71 yX7_found, Cond.instanceMethod yX7_found, Cond.selects RX7 yX7_found yX7_found, Cond.code yX7_found cX7_found 2 (some .int), Cond.fieldLink RX7 58 "SharedShadow" "findings" "[I", Cond.constant RX7 306 (-1000001)]
def wsX7_now : List Cond := .code yX7_now cX7_now 2 (some .int) :: ((wsX7_now_r1 ++ wsX7_now_r2) ++ wsX70 ++ wsX10)
def wsX7_met_r1 : List Cond := [Cond.fieldLink RX7 10 "SharedShadow" "land" "LSharedShadow$Land;", Cond.fieldLink RX7 22 "SharedShadow" "rest" "LSharedShadow$Rest;", Cond.methodLink RX7 82 yX1_isPerson, Cond.instanceMethod yX1_isPerson, Cond.selects RX1 yX1_isPerson yX1_isPerson, Cond.initialized RX1, Cond.code yX1_isPerson cX1_isPerson 2 (some .boolean), Cond.fieldLink RX1 30 "SharedShadow$Land" "people" "I", Cond.methodLink RX7 71 yX7_found, Cond.instanceMethod yX7_found, Cond.selects RX7 yX7_found yX7_found, Cond.initialized RX7, Cond.code yX7_found cX7_found 2 (some .int), Cond.fieldLink RX7 58 "SharedShadow" "findings" "[I", Cond.constant RX7 306 (-1000001), Cond.methodLink RX7 144 yX4_see, Cond.instanceMethod yX4_see, Cond.selects RX4 yX4_see yX4_see, Cond.initialized RX4, Cond.code yX4_see cX4_see 2 none, Cond.methodLink RX4 29 yX4_begin, Cond.instanceMethod yX4_begin, Cond.selects RX4 yX4_begin yX4_begin, Cond.code yX4_begin cX4_begin 2 none]
def wsX7_met_r2 : List Cond := [Cond.fieldLink RX4 12 "SharedShadow$Rest" "to" "LSharedShadow$Land;", Cond.fieldLink RX4 39 "SharedShadow$Land" "hour" "I", Cond.fieldLink RX4 22 "SharedShadow$Rest" "first" "I", Cond.fieldLink RX4 26 "SharedShadow$Rest" "left" "I", Cond.methodLink RX4 36 yX1_become, Cond.instanceMethod yX1_become, Cond.selects RX1 yX1_become yX1_become, Cond.code yX1_become cX1_become 2 none, Cond.fieldLink RX1 9 "SharedShadow$Land" "kind" "[I", Cond.methodLink RX1 50 arraycopyName, Cond.native arraycopyName, Cond.static arraycopyName, Cond.initialized "java/lang/System", Cond.fieldLink RX1 15 "SharedShadow$Land" "sun" "[I", Cond.fieldLink RX1 18 "SharedShadow$Land" "strength" "[I", Cond.fieldLink RX1 21 "SharedShadow$Land" "needs" "[I", Cond.fieldLink RX1 24 "SharedShadow$Land" "partner" "[I", Cond.fieldLink RX1 27 "SharedShadow$Land" "spots" "[I", Cond.fieldLink RX1 35 "SharedShadow$Land" "lit" "I", Cond.fieldLink RX1 38 "SharedShadow$Land" "hour" "I", Cond.fieldLink RX1 41 "SharedShadow$Land" "wereMet" "I", Cond.fieldLink RX1 44 "SharedShadow$Land" "wereMissed" "I", Cond.fieldLink RX1 47 "SharedShadow$Land" "drawn" "I", Cond.methodLink RX4 42 yX1_hoursLeft]
def wsX7_met_r3 : List Cond := [Cond.instanceMethod yX1_hoursLeft, Cond.selects RX1 yX1_hoursLeft yX1_hoursLeft, Cond.code yX1_hoursLeft cX1_hoursLeft 1 (some .int), Cond.constant RX1 34 (65535), Cond.methodLink RX4 33 yX4_run, Cond.instanceMethod yX4_run, Cond.selects RX4 yX4_run yX4_run, Cond.code yX4_run cX4_run 2 none, Cond.fieldLink RX4 18 "SharedShadow$Rest" "have" "[I", Cond.methodLink RX4 46 yX1_havers, Cond.instanceMethod yX1_havers, Cond.selects RX1 yX1_havers yX1_havers, Cond.code yX1_havers cX1_havers 3 (some .int), Cond.static yX7_bit, Cond.code yX7_bit cX7_bit 2 (some .int), Cond.methodLink RX1 93 yX1_stronger, Cond.instanceMethod yX1_stronger, Cond.selects RX1 yX1_stronger yX1_stronger, Cond.code yX1_stronger cX1_stronger 6 (some .int), Cond.methodLink RX1 78 Lib.Math.min.name, Cond.static Lib.Math.min.name, Cond.initialized "java/lang/Math", Cond.code Lib.Math.min.name Lib.Math.min.code 2 (some .int), Cond.methodLink RX1 84 Lib.Math.max.name]
def wsX7_met_r4 : List Cond := [Cond.static Lib.Math.max.name, Cond.code Lib.Math.max.name Lib.Math.max.code 2 (some .int), Cond.methodLink RX1 87 yX1_claimOf, Cond.instanceMethod yX1_claimOf, Cond.selects RX1 yX1_claimOf yX1_claimOf, Cond.code yX1_claimOf cX1_claimOf 5 (some .int), Cond.methodLink RX4 49 yX1_passHour, Cond.instanceMethod yX1_passHour, Cond.selects RX1 yX1_passHour yX1_passHour, Cond.code yX1_passHour cX1_passHour 5 none, Cond.methodLink RX1 104 yX1_tally, Cond.instanceMethod yX1_tally, Cond.selects RX1 yX1_tally yX1_tally, Cond.code yX1_tally cX1_tally 2 none, Cond.methodLink RX7 148 yX4_metOf, Cond.instanceMethod yX4_metOf, Cond.selects RX4 yX4_metOf yX4_metOf, Cond.code yX4_metOf cX4_metOf 2 (some .int), Cond.fieldLink RX4 57 "SharedShadow$Land" "needs" "[I", Cond.methodLink RX4 67 yX1_isPerson, Cond.methodLink RX4 71 yX4_servedOf, Cond.instanceMethod yX4_servedOf, Cond.selects RX4 yX4_servedOf yX4_servedOf, Cond.code yX4_servedOf cX4_servedOf 2 (some .int)]
def wsX7_met_r5 : List Cond := [Cond.fieldLink RX4 60 "SharedShadow$Land" "lit" "I", Cond.methodLink RX4 63 yX4_shadeOf, Cond.instanceMethod yX4_shadeOf, Cond.selects RX4 yX4_shadeOf yX4_shadeOf, Cond.code yX4_shadeOf cX4_shadeOf 4 (some .int), Cond.methodLink RX4 74 yJ6_bitCount_0f7a4, Cond.static yJ6_bitCount_0f7a4, Cond.initialized RJ6, Cond.code yJ6_bitCount_0f7a4 cJ6_bitCount_0f7a4 1 (some .int), Cond.constant RJ6 265 (1431655765), Cond.constant RJ6 266 (858993459), Cond.constant RJ6 267 (252645135)]
def wsX7_met : List Cond := .code yX7_met cX7_met 2 (some .int) :: ((wsX7_met_r1 ++ (wsX7_met_r2 ++ (wsX7_met_r3 ++ (wsX7_met_r4 ++ wsX7_met_r5)))) ++ wsX70 ++ wsX10 ++ wsX40)
def wsX7_cold_r1 : List Cond := [Cond.fieldLink RX7 10 "SharedShadow" "land" "LSharedShadow$Land;", Cond.fieldLink RX7 22 "SharedShadow" "rest" "LSharedShadow$Rest;", Cond.methodLink RX7 82 yX1_isPerson, Cond.instanceMethod yX1_isPerson, Cond.selects RX1 yX1_isPerson yX1_isPerson, Cond.initialized RX1, Cond.code yX1_isPerson cX1_isPerson 2 (some .boolean), Cond.fieldLink RX1 30 "SharedShadow$Land" "people" "I", Cond.methodLink RX7 71 yX7_found, Cond.instanceMethod yX7_found, Cond.selects RX7 yX7_found yX7_found, Cond.initialized RX7, Cond.code yX7_found cX7_found 2 (some .int), Cond.fieldLink RX7 58 "SharedShadow" "findings" "[I", Cond.constant RX7 306 (-1000001), Cond.methodLink RX7 144 yX4_see, Cond.instanceMethod yX4_see, Cond.selects RX4 yX4_see yX4_see, Cond.initialized RX4, Cond.code yX4_see cX4_see 2 none, Cond.methodLink RX4 29 yX4_begin, Cond.instanceMethod yX4_begin, Cond.selects RX4 yX4_begin yX4_begin, Cond.code yX4_begin cX4_begin 2 none]
def wsX7_cold_r2 : List Cond := [Cond.fieldLink RX4 12 "SharedShadow$Rest" "to" "LSharedShadow$Land;", Cond.fieldLink RX4 39 "SharedShadow$Land" "hour" "I", Cond.fieldLink RX4 22 "SharedShadow$Rest" "first" "I", Cond.fieldLink RX4 26 "SharedShadow$Rest" "left" "I", Cond.methodLink RX4 36 yX1_become, Cond.instanceMethod yX1_become, Cond.selects RX1 yX1_become yX1_become, Cond.code yX1_become cX1_become 2 none, Cond.fieldLink RX1 9 "SharedShadow$Land" "kind" "[I", Cond.methodLink RX1 50 arraycopyName, Cond.native arraycopyName, Cond.static arraycopyName, Cond.initialized "java/lang/System", Cond.fieldLink RX1 15 "SharedShadow$Land" "sun" "[I", Cond.fieldLink RX1 18 "SharedShadow$Land" "strength" "[I", Cond.fieldLink RX1 21 "SharedShadow$Land" "needs" "[I", Cond.fieldLink RX1 24 "SharedShadow$Land" "partner" "[I", Cond.fieldLink RX1 27 "SharedShadow$Land" "spots" "[I", Cond.fieldLink RX1 35 "SharedShadow$Land" "lit" "I", Cond.fieldLink RX1 38 "SharedShadow$Land" "hour" "I", Cond.fieldLink RX1 41 "SharedShadow$Land" "wereMet" "I", Cond.fieldLink RX1 44 "SharedShadow$Land" "wereMissed" "I", Cond.fieldLink RX1 47 "SharedShadow$Land" "drawn" "I", Cond.methodLink RX4 42 yX1_hoursLeft]
def wsX7_cold_r3 : List Cond := [Cond.instanceMethod yX1_hoursLeft, Cond.selects RX1 yX1_hoursLeft yX1_hoursLeft, Cond.code yX1_hoursLeft cX1_hoursLeft 1 (some .int), Cond.constant RX1 34 (65535), Cond.methodLink RX4 33 yX4_run, Cond.instanceMethod yX4_run, Cond.selects RX4 yX4_run yX4_run, Cond.code yX4_run cX4_run 2 none, Cond.fieldLink RX4 18 "SharedShadow$Rest" "have" "[I", Cond.methodLink RX4 46 yX1_havers, Cond.instanceMethod yX1_havers, Cond.selects RX1 yX1_havers yX1_havers, Cond.code yX1_havers cX1_havers 3 (some .int), Cond.static yX7_bit, Cond.code yX7_bit cX7_bit 2 (some .int), Cond.methodLink RX1 93 yX1_stronger, Cond.instanceMethod yX1_stronger, Cond.selects RX1 yX1_stronger yX1_stronger, Cond.code yX1_stronger cX1_stronger 6 (some .int), Cond.methodLink RX1 78 Lib.Math.min.name, Cond.static Lib.Math.min.name, Cond.initialized "java/lang/Math", Cond.code Lib.Math.min.name Lib.Math.min.code 2 (some .int), Cond.methodLink RX1 84 Lib.Math.max.name]
def wsX7_cold_r4 : List Cond := [Cond.static Lib.Math.max.name, Cond.code Lib.Math.max.name Lib.Math.max.code 2 (some .int), Cond.methodLink RX1 87 yX1_claimOf, Cond.instanceMethod yX1_claimOf, Cond.selects RX1 yX1_claimOf yX1_claimOf, Cond.code yX1_claimOf cX1_claimOf 5 (some .int), Cond.methodLink RX4 49 yX1_passHour, Cond.instanceMethod yX1_passHour, Cond.selects RX1 yX1_passHour yX1_passHour, Cond.code yX1_passHour cX1_passHour 5 none, Cond.methodLink RX1 104 yX1_tally, Cond.instanceMethod yX1_tally, Cond.selects RX1 yX1_tally yX1_tally, Cond.code yX1_tally cX1_tally 2 none, Cond.methodLink RX7 151 yX4_firstCold, Cond.instanceMethod yX4_firstCold, Cond.selects RX4 yX4_firstCold yX4_firstCold, Cond.code yX4_firstCold cX4_firstCold 4 (some .int), Cond.methodLink RX4 67 yX1_isPerson, Cond.methodLink RX4 71 yX4_servedOf, Cond.instanceMethod yX4_servedOf, Cond.selects RX4 yX4_servedOf yX4_servedOf, Cond.code yX4_servedOf cX4_servedOf 2 (some .int), Cond.fieldLink RX4 57 "SharedShadow$Land" "needs" "[I"]
def wsX7_cold_r5 : List Cond := [Cond.fieldLink RX4 60 "SharedShadow$Land" "lit" "I", Cond.methodLink RX4 63 yX4_shadeOf, Cond.instanceMethod yX4_shadeOf, Cond.selects RX4 yX4_shadeOf yX4_shadeOf, Cond.code yX4_shadeOf cX4_shadeOf 4 (some .int)]
def wsX7_cold : List Cond := .code yX7_cold cX7_cold 3 (some .int) :: ((wsX7_cold_r1 ++ (wsX7_cold_r2 ++ (wsX7_cold_r3 ++ (wsX7_cold_r4 ++ wsX7_cold_r5)))) ++ wsX70 ++ wsX10 ++ wsX40)
def wsX7_shade_r1 : List Cond := [Cond.fieldLink RX7 10 "SharedShadow" "land" "LSharedShadow$Land;", Cond.fieldLink RX7 22 "SharedShadow" "rest" "LSharedShadow$Rest;", Cond.methodLink RX7 82 yX1_isPerson, Cond.instanceMethod yX1_isPerson, Cond.selects RX1 yX1_isPerson yX1_isPerson, Cond.initialized RX1, Cond.code yX1_isPerson cX1_isPerson 2 (some .boolean), Cond.fieldLink RX1 30 "SharedShadow$Land" "people" "I", Cond.methodLink RX7 71 yX7_found, Cond.instanceMethod yX7_found, Cond.selects RX7 yX7_found yX7_found, Cond.initialized RX7, Cond.code yX7_found cX7_found 2 (some .int), Cond.fieldLink RX7 58 "SharedShadow" "findings" "[I", Cond.constant RX7 306 (-1000001), Cond.methodLink RX7 144 yX4_see, Cond.instanceMethod yX4_see, Cond.selects RX4 yX4_see yX4_see, Cond.initialized RX4, Cond.code yX4_see cX4_see 2 none, Cond.methodLink RX4 29 yX4_begin, Cond.instanceMethod yX4_begin, Cond.selects RX4 yX4_begin yX4_begin, Cond.code yX4_begin cX4_begin 2 none]
def wsX7_shade_r2 : List Cond := [Cond.fieldLink RX4 12 "SharedShadow$Rest" "to" "LSharedShadow$Land;", Cond.fieldLink RX4 39 "SharedShadow$Land" "hour" "I", Cond.fieldLink RX4 22 "SharedShadow$Rest" "first" "I", Cond.fieldLink RX4 26 "SharedShadow$Rest" "left" "I", Cond.methodLink RX4 36 yX1_become, Cond.instanceMethod yX1_become, Cond.selects RX1 yX1_become yX1_become, Cond.code yX1_become cX1_become 2 none, Cond.fieldLink RX1 9 "SharedShadow$Land" "kind" "[I", Cond.methodLink RX1 50 arraycopyName, Cond.native arraycopyName, Cond.static arraycopyName, Cond.initialized "java/lang/System", Cond.fieldLink RX1 15 "SharedShadow$Land" "sun" "[I", Cond.fieldLink RX1 18 "SharedShadow$Land" "strength" "[I", Cond.fieldLink RX1 21 "SharedShadow$Land" "needs" "[I", Cond.fieldLink RX1 24 "SharedShadow$Land" "partner" "[I", Cond.fieldLink RX1 27 "SharedShadow$Land" "spots" "[I", Cond.fieldLink RX1 35 "SharedShadow$Land" "lit" "I", Cond.fieldLink RX1 38 "SharedShadow$Land" "hour" "I", Cond.fieldLink RX1 41 "SharedShadow$Land" "wereMet" "I", Cond.fieldLink RX1 44 "SharedShadow$Land" "wereMissed" "I", Cond.fieldLink RX1 47 "SharedShadow$Land" "drawn" "I", Cond.methodLink RX4 42 yX1_hoursLeft]
def wsX7_shade_r3 : List Cond := [Cond.instanceMethod yX1_hoursLeft, Cond.selects RX1 yX1_hoursLeft yX1_hoursLeft, Cond.code yX1_hoursLeft cX1_hoursLeft 1 (some .int), Cond.constant RX1 34 (65535), Cond.methodLink RX4 33 yX4_run, Cond.instanceMethod yX4_run, Cond.selects RX4 yX4_run yX4_run, Cond.code yX4_run cX4_run 2 none, Cond.fieldLink RX4 18 "SharedShadow$Rest" "have" "[I", Cond.methodLink RX4 46 yX1_havers, Cond.instanceMethod yX1_havers, Cond.selects RX1 yX1_havers yX1_havers, Cond.code yX1_havers cX1_havers 3 (some .int), Cond.static yX7_bit, Cond.code yX7_bit cX7_bit 2 (some .int), Cond.methodLink RX1 93 yX1_stronger, Cond.instanceMethod yX1_stronger, Cond.selects RX1 yX1_stronger yX1_stronger, Cond.code yX1_stronger cX1_stronger 6 (some .int), Cond.methodLink RX1 78 Lib.Math.min.name, Cond.static Lib.Math.min.name, Cond.initialized "java/lang/Math", Cond.code Lib.Math.min.name Lib.Math.min.code 2 (some .int), Cond.methodLink RX1 84 Lib.Math.max.name]
def wsX7_shade_r4 : List Cond := [Cond.static Lib.Math.max.name, Cond.code Lib.Math.max.name Lib.Math.max.code 2 (some .int), Cond.methodLink RX1 87 yX1_claimOf, Cond.instanceMethod yX1_claimOf, Cond.selects RX1 yX1_claimOf yX1_claimOf, Cond.code yX1_claimOf cX1_claimOf 5 (some .int), Cond.methodLink RX4 49 yX1_passHour, Cond.instanceMethod yX1_passHour, Cond.selects RX1 yX1_passHour yX1_passHour, Cond.code yX1_passHour cX1_passHour 5 none, Cond.methodLink RX1 104 yX1_tally, Cond.instanceMethod yX1_tally, Cond.selects RX1 yX1_tally yX1_tally, Cond.code yX1_tally cX1_tally 2 none, Cond.methodLink RX7 154 yX4_shadeOf, Cond.instanceMethod yX4_shadeOf, Cond.selects RX4 yX4_shadeOf yX4_shadeOf, Cond.code yX4_shadeOf cX4_shadeOf 4 (some .int)]
def wsX7_shade : List Cond := .code yX7_shade cX7_shade 2 (some .int) :: ((wsX7_shade_r1 ++ (wsX7_shade_r2 ++ (wsX7_shade_r3 ++ wsX7_shade_r4))) ++ wsX70 ++ wsX10 ++ wsX40)
def wsX7_all_r1 : List Cond := [Cond.fieldLink RX7 22 "SharedShadow" "rest" "LSharedShadow$Rest;", Cond.fieldLink RX7 10 "SharedShadow" "land" "LSharedShadow$Land;", Cond.methodLink RX7 144 yX4_see, Cond.instanceMethod yX4_see, Cond.selects RX4 yX4_see yX4_see, Cond.initialized RX4, Cond.code yX4_see cX4_see 2 none, Cond.methodLink RX4 29 yX4_begin, Cond.instanceMethod yX4_begin, Cond.selects RX4 yX4_begin yX4_begin, Cond.code yX4_begin cX4_begin 2 none, Cond.fieldLink RX4 12 "SharedShadow$Rest" "to" "LSharedShadow$Land;", Cond.fieldLink RX4 39 "SharedShadow$Land" "hour" "I", Cond.fieldLink RX4 22 "SharedShadow$Rest" "first" "I", Cond.fieldLink RX4 26 "SharedShadow$Rest" "left" "I", Cond.methodLink RX4 36 yX1_become, Cond.instanceMethod yX1_become, Cond.selects RX1 yX1_become yX1_become, Cond.initialized RX1, Cond.code yX1_become cX1_become 2 none, Cond.fieldLink RX1 9 "SharedShadow$Land" "kind" "[I", Cond.methodLink RX1 50 arraycopyName, Cond.native arraycopyName, Cond.static arraycopyName]
def wsX7_all_r2 : List Cond := [Cond.initialized "java/lang/System", Cond.fieldLink RX1 15 "SharedShadow$Land" "sun" "[I", Cond.fieldLink RX1 18 "SharedShadow$Land" "strength" "[I", Cond.fieldLink RX1 21 "SharedShadow$Land" "needs" "[I", Cond.fieldLink RX1 24 "SharedShadow$Land" "partner" "[I", Cond.fieldLink RX1 27 "SharedShadow$Land" "spots" "[I", Cond.fieldLink RX1 30 "SharedShadow$Land" "people" "I", Cond.fieldLink RX1 35 "SharedShadow$Land" "lit" "I", Cond.fieldLink RX1 38 "SharedShadow$Land" "hour" "I", Cond.fieldLink RX1 41 "SharedShadow$Land" "wereMet" "I", Cond.fieldLink RX1 44 "SharedShadow$Land" "wereMissed" "I", Cond.fieldLink RX1 47 "SharedShadow$Land" "drawn" "I", Cond.methodLink RX4 42 yX1_hoursLeft, Cond.instanceMethod yX1_hoursLeft, Cond.selects RX1 yX1_hoursLeft yX1_hoursLeft, Cond.code yX1_hoursLeft cX1_hoursLeft 1 (some .int), Cond.constant RX1 34 (65535), Cond.methodLink RX4 33 yX4_run, Cond.instanceMethod yX4_run, Cond.selects RX4 yX4_run yX4_run, Cond.code yX4_run cX4_run 2 none, Cond.fieldLink RX4 18 "SharedShadow$Rest" "have" "[I", Cond.methodLink RX4 46 yX1_havers, Cond.instanceMethod yX1_havers]
def wsX7_all_r3 : List Cond := [Cond.selects RX1 yX1_havers yX1_havers, Cond.code yX1_havers cX1_havers 3 (some .int), Cond.static yX7_bit, Cond.initialized RX7, Cond.code yX7_bit cX7_bit 2 (some .int), Cond.methodLink RX1 93 yX1_stronger, Cond.instanceMethod yX1_stronger, Cond.selects RX1 yX1_stronger yX1_stronger, Cond.code yX1_stronger cX1_stronger 6 (some .int), Cond.methodLink RX1 78 Lib.Math.min.name, Cond.static Lib.Math.min.name, Cond.initialized "java/lang/Math", Cond.code Lib.Math.min.name Lib.Math.min.code 2 (some .int), Cond.methodLink RX1 84 Lib.Math.max.name, Cond.static Lib.Math.max.name, Cond.code Lib.Math.max.name Lib.Math.max.code 2 (some .int), Cond.methodLink RX1 87 yX1_claimOf, Cond.instanceMethod yX1_claimOf, Cond.selects RX1 yX1_claimOf yX1_claimOf, Cond.code yX1_claimOf cX1_claimOf 5 (some .int), Cond.methodLink RX4 49 yX1_passHour, Cond.instanceMethod yX1_passHour, Cond.selects RX1 yX1_passHour yX1_passHour, Cond.code yX1_passHour cX1_passHour 5 none]
def wsX7_all_r4 : List Cond := [Cond.methodLink RX1 104 yX1_tally, Cond.instanceMethod yX1_tally, Cond.selects RX1 yX1_tally yX1_tally, Cond.code yX1_tally cX1_tally 2 none, Cond.methodLink RX7 157 yX4_metOfAll, Cond.instanceMethod yX4_metOfAll, Cond.selects RX4 yX4_metOfAll yX4_metOfAll, Cond.code yX4_metOfAll cX4_metOfAll 3 (some .int), Cond.fieldLink RX4 79 "SharedShadow$Land" "people" "I", Cond.methodLink RX4 82 yX4_metOf, Cond.instanceMethod yX4_metOf, Cond.selects RX4 yX4_metOf yX4_metOf, Cond.code yX4_metOf cX4_metOf 2 (some .int), Cond.fieldLink RX4 57 "SharedShadow$Land" "needs" "[I", Cond.methodLink RX4 67 yX1_isPerson, Cond.instanceMethod yX1_isPerson, Cond.selects RX1 yX1_isPerson yX1_isPerson, Cond.code yX1_isPerson cX1_isPerson 2 (some .boolean), Cond.methodLink RX4 71 yX4_servedOf, Cond.instanceMethod yX4_servedOf, Cond.selects RX4 yX4_servedOf yX4_servedOf, Cond.code yX4_servedOf cX4_servedOf 2 (some .int), Cond.fieldLink RX4 60 "SharedShadow$Land" "lit" "I", Cond.methodLink RX4 63 yX4_shadeOf]
def wsX7_all_r5 : List Cond := [Cond.instanceMethod yX4_shadeOf, Cond.selects RX4 yX4_shadeOf yX4_shadeOf, Cond.code yX4_shadeOf cX4_shadeOf 4 (some .int), Cond.methodLink RX4 74 yJ6_bitCount_0f7a4, Cond.static yJ6_bitCount_0f7a4, Cond.initialized RJ6, Cond.code yJ6_bitCount_0f7a4 cJ6_bitCount_0f7a4 1 (some .int), Cond.constant RJ6 265 (1431655765), Cond.constant RJ6 266 (858993459), Cond.constant RJ6 267 (252645135)]
def wsX7_all : List Cond := .code yX7_all cX7_all 1 (some .int) :: ((wsX7_all_r1 ++ (wsX7_all_r2 ++ (wsX7_all_r3 ++ (wsX7_all_r4 ++ wsX7_all_r5)))) ++ wsX70 ++ wsX40 ++ wsX10)
def wsX7_tan_r1 : List Cond := [Cond.fieldLink RX7 10 "SharedShadow" "land" "LSharedShadow$Land;", Cond.fieldLink RX7 22 "SharedShadow" "rest" "LSharedShadow$Rest;", Cond.methodLink RX7 82 yX1_isPerson, Cond.instanceMethod yX1_isPerson, Cond.selects RX1 yX1_isPerson yX1_isPerson, Cond.initialized RX1, Cond.code yX1_isPerson cX1_isPerson 2 (some .boolean), Cond.fieldLink RX1 30 "SharedShadow$Land" "people" "I", Cond.methodLink RX7 71 yX7_found, Cond.instanceMethod yX7_found, Cond.selects RX7 yX7_found yX7_found, Cond.initialized RX7, Cond.code yX7_found cX7_found 2 (some .int), Cond.fieldLink RX7 58 "SharedShadow" "findings" "[I", Cond.constant RX7 306 (-1000001), Cond.methodLink RX7 144 yX4_see, Cond.instanceMethod yX4_see, Cond.selects RX4 yX4_see yX4_see, Cond.initialized RX4, Cond.code yX4_see cX4_see 2 none, Cond.methodLink RX4 29 yX4_begin, Cond.instanceMethod yX4_begin, Cond.selects RX4 yX4_begin yX4_begin, Cond.code yX4_begin cX4_begin 2 none]
def wsX7_tan_r2 : List Cond := [Cond.fieldLink RX4 12 "SharedShadow$Rest" "to" "LSharedShadow$Land;", Cond.fieldLink RX4 39 "SharedShadow$Land" "hour" "I", Cond.fieldLink RX4 22 "SharedShadow$Rest" "first" "I", Cond.fieldLink RX4 26 "SharedShadow$Rest" "left" "I", Cond.methodLink RX4 36 yX1_become, Cond.instanceMethod yX1_become, Cond.selects RX1 yX1_become yX1_become, Cond.code yX1_become cX1_become 2 none, Cond.fieldLink RX1 9 "SharedShadow$Land" "kind" "[I", Cond.methodLink RX1 50 arraycopyName, Cond.native arraycopyName, Cond.static arraycopyName, Cond.initialized "java/lang/System", Cond.fieldLink RX1 15 "SharedShadow$Land" "sun" "[I", Cond.fieldLink RX1 18 "SharedShadow$Land" "strength" "[I", Cond.fieldLink RX1 21 "SharedShadow$Land" "needs" "[I", Cond.fieldLink RX1 24 "SharedShadow$Land" "partner" "[I", Cond.fieldLink RX1 27 "SharedShadow$Land" "spots" "[I", Cond.fieldLink RX1 35 "SharedShadow$Land" "lit" "I", Cond.fieldLink RX1 38 "SharedShadow$Land" "hour" "I", Cond.fieldLink RX1 41 "SharedShadow$Land" "wereMet" "I", Cond.fieldLink RX1 44 "SharedShadow$Land" "wereMissed" "I", Cond.fieldLink RX1 47 "SharedShadow$Land" "drawn" "I", Cond.methodLink RX4 42 yX1_hoursLeft]
def wsX7_tan_r3 : List Cond := [Cond.instanceMethod yX1_hoursLeft, Cond.selects RX1 yX1_hoursLeft yX1_hoursLeft, Cond.code yX1_hoursLeft cX1_hoursLeft 1 (some .int), Cond.constant RX1 34 (65535), Cond.methodLink RX4 33 yX4_run, Cond.instanceMethod yX4_run, Cond.selects RX4 yX4_run yX4_run, Cond.code yX4_run cX4_run 2 none, Cond.fieldLink RX4 18 "SharedShadow$Rest" "have" "[I", Cond.methodLink RX4 46 yX1_havers, Cond.instanceMethod yX1_havers, Cond.selects RX1 yX1_havers yX1_havers, Cond.code yX1_havers cX1_havers 3 (some .int), Cond.static yX7_bit, Cond.code yX7_bit cX7_bit 2 (some .int), Cond.methodLink RX1 93 yX1_stronger, Cond.instanceMethod yX1_stronger, Cond.selects RX1 yX1_stronger yX1_stronger, Cond.code yX1_stronger cX1_stronger 6 (some .int), Cond.methodLink RX1 78 Lib.Math.min.name, Cond.static Lib.Math.min.name, Cond.initialized "java/lang/Math", Cond.code Lib.Math.min.name Lib.Math.min.code 2 (some .int), Cond.methodLink RX1 84 Lib.Math.max.name]
def wsX7_tan_r4 : List Cond := [Cond.static Lib.Math.max.name, Cond.code Lib.Math.max.name Lib.Math.max.code 2 (some .int), Cond.methodLink RX1 87 yX1_claimOf, Cond.instanceMethod yX1_claimOf, Cond.selects RX1 yX1_claimOf yX1_claimOf, Cond.code yX1_claimOf cX1_claimOf 5 (some .int), Cond.methodLink RX4 49 yX1_passHour, Cond.instanceMethod yX1_passHour, Cond.selects RX1 yX1_passHour yX1_passHour, Cond.code yX1_passHour cX1_passHour 5 none, Cond.methodLink RX1 104 yX1_tally, Cond.instanceMethod yX1_tally, Cond.selects RX1 yX1_tally yX1_tally, Cond.code yX1_tally cX1_tally 2 none, Cond.methodLink RX7 160 yX4_sunOf, Cond.instanceMethod yX4_sunOf, Cond.selects RX4 yX4_sunOf yX4_sunOf, Cond.code yX4_sunOf cX4_sunOf 2 (some .int), Cond.fieldLink RX4 85 "SharedShadow$Land" "sun" "[I", Cond.methodLink RX4 67 yX1_isPerson]
def wsX7_tan : List Cond := .code yX7_tan cX7_tan 2 (some .int) :: ((wsX7_tan_r1 ++ (wsX7_tan_r2 ++ (wsX7_tan_r3 ++ wsX7_tan_r4))) ++ wsX70 ++ wsX10 ++ wsX40)
def wsX7_strong_r1 : List Cond := [Cond.fieldLink RX7 10 "SharedShadow" "land" "LSharedShadow$Land;", Cond.fieldLink RX7 22 "SharedShadow" "rest" "LSharedShadow$Rest;", Cond.fieldLink RX7 166 "SharedShadow$Rest" "to" "LSharedShadow$Land;", Cond.fieldLink RX7 92 "SharedShadow$Land" "strength" "[I", Cond.methodLink RX7 82 yX1_isPerson, Cond.instanceMethod yX1_isPerson, Cond.selects RX1 yX1_isPerson yX1_isPerson, Cond.initialized RX1, Cond.code yX1_isPerson cX1_isPerson 2 (some .boolean), Cond.fieldLink RX1 30 "SharedShadow$Land" "people" "I", Cond.methodLink RX7 71 yX7_found, Cond.instanceMethod yX7_found, Cond.selects RX7 yX7_found yX7_found, Cond.initialized RX7, Cond.code yX7_found cX7_found 2 (some .int), Cond.fieldLink RX7 58 "SharedShadow" "findings" "[I", Cond.constant RX7 306 (-1000001), Cond.methodLink RX7 163 yX4_begin, Cond.instanceMethod yX4_begin, Cond.selects RX4 yX4_begin yX4_begin, Cond.initialized RX4, Cond.code yX4_begin cX4_begin 2 none, Cond.fieldLink RX4 12 "SharedShadow$Rest" "to" "LSharedShadow$Land;", Cond.fieldLink RX4 39 "SharedShadow$Land" "hour" "I"]
def wsX7_strong_r2 : List Cond := [Cond.fieldLink RX4 22 "SharedShadow$Rest" "first" "I", Cond.fieldLink RX4 26 "SharedShadow$Rest" "left" "I", Cond.methodLink RX4 36 yX1_become, Cond.instanceMethod yX1_become, Cond.selects RX1 yX1_become yX1_become, Cond.code yX1_become cX1_become 2 none, Cond.fieldLink RX1 9 "SharedShadow$Land" "kind" "[I", Cond.methodLink RX1 50 arraycopyName, Cond.native arraycopyName, Cond.static arraycopyName, Cond.initialized "java/lang/System", Cond.fieldLink RX1 15 "SharedShadow$Land" "sun" "[I", Cond.fieldLink RX1 18 "SharedShadow$Land" "strength" "[I", Cond.fieldLink RX1 21 "SharedShadow$Land" "needs" "[I", Cond.fieldLink RX1 24 "SharedShadow$Land" "partner" "[I", Cond.fieldLink RX1 27 "SharedShadow$Land" "spots" "[I", Cond.fieldLink RX1 35 "SharedShadow$Land" "lit" "I", Cond.fieldLink RX1 38 "SharedShadow$Land" "hour" "I", Cond.fieldLink RX1 41 "SharedShadow$Land" "wereMet" "I", Cond.fieldLink RX1 44 "SharedShadow$Land" "wereMissed" "I", Cond.fieldLink RX1 47 "SharedShadow$Land" "drawn" "I", Cond.methodLink RX4 42 yX1_hoursLeft, Cond.instanceMethod yX1_hoursLeft, Cond.selects RX1 yX1_hoursLeft yX1_hoursLeft]
def wsX7_strong_r3 : List Cond := [Cond.code yX1_hoursLeft cX1_hoursLeft 1 (some .int), Cond.constant RX1 34 (65535), Cond.methodLink RX7 169 yX4_run, Cond.instanceMethod yX4_run, Cond.selects RX4 yX4_run yX4_run, Cond.code yX4_run cX4_run 2 none, Cond.fieldLink RX4 18 "SharedShadow$Rest" "have" "[I", Cond.methodLink RX4 46 yX1_havers, Cond.instanceMethod yX1_havers, Cond.selects RX1 yX1_havers yX1_havers, Cond.code yX1_havers cX1_havers 3 (some .int), Cond.static yX7_bit, Cond.code yX7_bit cX7_bit 2 (some .int), Cond.methodLink RX1 93 yX1_stronger, Cond.instanceMethod yX1_stronger, Cond.selects RX1 yX1_stronger yX1_stronger, Cond.code yX1_stronger cX1_stronger 6 (some .int), Cond.methodLink RX1 78 Lib.Math.min.name, Cond.static Lib.Math.min.name, Cond.initialized "java/lang/Math", Cond.code Lib.Math.min.name Lib.Math.min.code 2 (some .int), Cond.methodLink RX1 84 Lib.Math.max.name, Cond.static Lib.Math.max.name, Cond.code Lib.Math.max.name Lib.Math.max.code 2 (some .int)]
def wsX7_strong_r4 : List Cond := [Cond.methodLink RX1 87 yX1_claimOf, Cond.instanceMethod yX1_claimOf, Cond.selects RX1 yX1_claimOf yX1_claimOf, Cond.code yX1_claimOf cX1_claimOf 5 (some .int), Cond.methodLink RX4 49 yX1_passHour, Cond.instanceMethod yX1_passHour, Cond.selects RX1 yX1_passHour yX1_passHour, Cond.code yX1_passHour cX1_passHour 5 none, Cond.methodLink RX1 104 yX1_tally, Cond.instanceMethod yX1_tally, Cond.selects RX1 yX1_tally yX1_tally, Cond.code yX1_tally cX1_tally 2 none, Cond.methodLink RX7 151 yX4_firstCold, Cond.instanceMethod yX4_firstCold, Cond.selects RX4 yX4_firstCold yX4_firstCold, Cond.code yX4_firstCold cX4_firstCold 4 (some .int), Cond.methodLink RX4 67 yX1_isPerson, Cond.methodLink RX4 71 yX4_servedOf, Cond.instanceMethod yX4_servedOf, Cond.selects RX4 yX4_servedOf yX4_servedOf, Cond.code yX4_servedOf cX4_servedOf 2 (some .int), Cond.fieldLink RX4 57 "SharedShadow$Land" "needs" "[I", Cond.fieldLink RX4 60 "SharedShadow$Land" "lit" "I", Cond.methodLink RX4 63 yX4_shadeOf]
def wsX7_strong_r5 : List Cond := [Cond.instanceMethod yX4_shadeOf, Cond.selects RX4 yX4_shadeOf yX4_shadeOf, Cond.code yX4_shadeOf cX4_shadeOf 4 (some .int)]
def wsX7_strong : List Cond := .code yX7_strong cX7_strong 3 (some .int) :: ((wsX7_strong_r1 ++ (wsX7_strong_r2 ++ (wsX7_strong_r3 ++ (wsX7_strong_r4 ++ wsX7_strong_r5)))) ++ wsX70 ++ wsX40 ++ wsX10)
def wsX7_kindFor_r1 : List Cond := [Cond.fieldLink RX7 10 "SharedShadow" "land" "LSharedShadow$Land;", Cond.fieldLink RX7 22 "SharedShadow" "rest" "LSharedShadow$Rest;", Cond.fieldLink RX7 166 "SharedShadow$Rest" "to" "LSharedShadow$Land;", Cond.fieldLink RX7 86 "SharedShadow$Land" "kind" "[I", Cond.methodLink RX7 82 yX1_isPerson, Cond.instanceMethod yX1_isPerson, Cond.selects RX1 yX1_isPerson yX1_isPerson, Cond.initialized RX1, Cond.code yX1_isPerson cX1_isPerson 2 (some .boolean), Cond.fieldLink RX1 30 "SharedShadow$Land" "people" "I", Cond.methodLink RX7 71 yX7_found, Cond.instanceMethod yX7_found, Cond.selects RX7 yX7_found yX7_found, Cond.initialized RX7, Cond.code yX7_found cX7_found 2 (some .int), Cond.fieldLink RX7 58 "SharedShadow" "findings" "[I", Cond.constant RX7 306 (-1000001), Cond.methodLink RX7 163 yX4_begin, Cond.instanceMethod yX4_begin, Cond.selects RX4 yX4_begin yX4_begin, Cond.initialized RX4, Cond.code yX4_begin cX4_begin 2 none, Cond.fieldLink RX4 12 "SharedShadow$Rest" "to" "LSharedShadow$Land;", Cond.fieldLink RX4 39 "SharedShadow$Land" "hour" "I"]
def wsX7_kindFor_r2 : List Cond := [Cond.fieldLink RX4 22 "SharedShadow$Rest" "first" "I", Cond.fieldLink RX4 26 "SharedShadow$Rest" "left" "I", Cond.methodLink RX4 36 yX1_become, Cond.instanceMethod yX1_become, Cond.selects RX1 yX1_become yX1_become, Cond.code yX1_become cX1_become 2 none, Cond.fieldLink RX1 9 "SharedShadow$Land" "kind" "[I", Cond.methodLink RX1 50 arraycopyName, Cond.native arraycopyName, Cond.static arraycopyName, Cond.initialized "java/lang/System", Cond.fieldLink RX1 15 "SharedShadow$Land" "sun" "[I", Cond.fieldLink RX1 18 "SharedShadow$Land" "strength" "[I", Cond.fieldLink RX1 21 "SharedShadow$Land" "needs" "[I", Cond.fieldLink RX1 24 "SharedShadow$Land" "partner" "[I", Cond.fieldLink RX1 27 "SharedShadow$Land" "spots" "[I", Cond.fieldLink RX1 35 "SharedShadow$Land" "lit" "I", Cond.fieldLink RX1 38 "SharedShadow$Land" "hour" "I", Cond.fieldLink RX1 41 "SharedShadow$Land" "wereMet" "I", Cond.fieldLink RX1 44 "SharedShadow$Land" "wereMissed" "I", Cond.fieldLink RX1 47 "SharedShadow$Land" "drawn" "I", Cond.methodLink RX4 42 yX1_hoursLeft, Cond.instanceMethod yX1_hoursLeft, Cond.selects RX1 yX1_hoursLeft yX1_hoursLeft]
def wsX7_kindFor_r3 : List Cond := [Cond.code yX1_hoursLeft cX1_hoursLeft 1 (some .int), Cond.constant RX1 34 (65535), Cond.methodLink RX7 169 yX4_run, Cond.instanceMethod yX4_run, Cond.selects RX4 yX4_run yX4_run, Cond.code yX4_run cX4_run 2 none, Cond.fieldLink RX4 18 "SharedShadow$Rest" "have" "[I", Cond.methodLink RX4 46 yX1_havers, Cond.instanceMethod yX1_havers, Cond.selects RX1 yX1_havers yX1_havers, Cond.code yX1_havers cX1_havers 3 (some .int), Cond.static yX7_bit, Cond.code yX7_bit cX7_bit 2 (some .int), Cond.methodLink RX1 93 yX1_stronger, Cond.instanceMethod yX1_stronger, Cond.selects RX1 yX1_stronger yX1_stronger, Cond.code yX1_stronger cX1_stronger 6 (some .int), Cond.methodLink RX1 78 Lib.Math.min.name, Cond.static Lib.Math.min.name, Cond.initialized "java/lang/Math", Cond.code Lib.Math.min.name Lib.Math.min.code 2 (some .int), Cond.methodLink RX1 84 Lib.Math.max.name, Cond.static Lib.Math.max.name, Cond.code Lib.Math.max.name Lib.Math.max.code 2 (some .int)]
def wsX7_kindFor_r4 : List Cond := [Cond.methodLink RX1 87 yX1_claimOf, Cond.instanceMethod yX1_claimOf, Cond.selects RX1 yX1_claimOf yX1_claimOf, Cond.code yX1_claimOf cX1_claimOf 5 (some .int), Cond.methodLink RX4 49 yX1_passHour, Cond.instanceMethod yX1_passHour, Cond.selects RX1 yX1_passHour yX1_passHour, Cond.code yX1_passHour cX1_passHour 5 none, Cond.methodLink RX1 104 yX1_tally, Cond.instanceMethod yX1_tally, Cond.selects RX1 yX1_tally yX1_tally, Cond.code yX1_tally cX1_tally 2 none, Cond.methodLink RX7 148 yX4_metOf, Cond.instanceMethod yX4_metOf, Cond.selects RX4 yX4_metOf yX4_metOf, Cond.code yX4_metOf cX4_metOf 2 (some .int), Cond.fieldLink RX4 57 "SharedShadow$Land" "needs" "[I", Cond.methodLink RX4 67 yX1_isPerson, Cond.methodLink RX4 71 yX4_servedOf, Cond.instanceMethod yX4_servedOf, Cond.selects RX4 yX4_servedOf yX4_servedOf, Cond.code yX4_servedOf cX4_servedOf 2 (some .int), Cond.fieldLink RX4 60 "SharedShadow$Land" "lit" "I", Cond.methodLink RX4 63 yX4_shadeOf]
def wsX7_kindFor_r5 : List Cond := [Cond.instanceMethod yX4_shadeOf, Cond.selects RX4 yX4_shadeOf yX4_shadeOf, Cond.code yX4_shadeOf cX4_shadeOf 4 (some .int), Cond.methodLink RX4 74 yJ6_bitCount_0f7a4, Cond.static yJ6_bitCount_0f7a4, Cond.initialized RJ6, Cond.code yJ6_bitCount_0f7a4 cJ6_bitCount_0f7a4 1 (some .int), Cond.constant RJ6 265 (1431655765), Cond.constant RJ6 266 (858993459), Cond.constant RJ6 267 (252645135)]
def wsX7_kindFor : List Cond := .code yX7_kindFor cX7_kindFor 5 (some .int) :: ((wsX7_kindFor_r1 ++ (wsX7_kindFor_r2 ++ (wsX7_kindFor_r3 ++ (wsX7_kindFor_r4 ++ wsX7_kindFor_r5)))) ++ wsX70 ++ wsX40 ++ wsX10)
def wsX7_cloud_r1 : List Cond := [Cond.fieldLink RX7 22 "SharedShadow" "rest" "LSharedShadow$Rest;", Cond.fieldLink RX7 10 "SharedShadow" "land" "LSharedShadow$Land;", Cond.fieldLink RX7 166 "SharedShadow$Rest" "to" "LSharedShadow$Land;", Cond.fieldLink RX7 132 "SharedShadow$Land" "lit" "I", Cond.methodLink RX7 144 yX4_see, Cond.instanceMethod yX4_see, Cond.selects RX4 yX4_see yX4_see, Cond.initialized RX4, Cond.code yX4_see cX4_see 2 none, Cond.methodLink RX4 29 yX4_begin, Cond.instanceMethod yX4_begin, Cond.selects RX4 yX4_begin yX4_begin, Cond.code yX4_begin cX4_begin 2 none, Cond.fieldLink RX4 12 "SharedShadow$Rest" "to" "LSharedShadow$Land;", Cond.fieldLink RX4 39 "SharedShadow$Land" "hour" "I", Cond.fieldLink RX4 22 "SharedShadow$Rest" "first" "I", Cond.fieldLink RX4 26 "SharedShadow$Rest" "left" "I", Cond.methodLink RX4 36 yX1_become, Cond.instanceMethod yX1_become, Cond.selects RX1 yX1_become yX1_become, Cond.initialized RX1, Cond.code yX1_become cX1_become 2 none, Cond.fieldLink RX1 9 "SharedShadow$Land" "kind" "[I", Cond.methodLink RX1 50 arraycopyName]
def wsX7_cloud_r2 : List Cond := [Cond.native arraycopyName, Cond.static arraycopyName, Cond.initialized "java/lang/System", Cond.fieldLink RX1 15 "SharedShadow$Land" "sun" "[I", Cond.fieldLink RX1 18 "SharedShadow$Land" "strength" "[I", Cond.fieldLink RX1 21 "SharedShadow$Land" "needs" "[I", Cond.fieldLink RX1 24 "SharedShadow$Land" "partner" "[I", Cond.fieldLink RX1 27 "SharedShadow$Land" "spots" "[I", Cond.fieldLink RX1 30 "SharedShadow$Land" "people" "I", Cond.fieldLink RX1 35 "SharedShadow$Land" "lit" "I", Cond.fieldLink RX1 38 "SharedShadow$Land" "hour" "I", Cond.fieldLink RX1 41 "SharedShadow$Land" "wereMet" "I", Cond.fieldLink RX1 44 "SharedShadow$Land" "wereMissed" "I", Cond.fieldLink RX1 47 "SharedShadow$Land" "drawn" "I", Cond.methodLink RX4 42 yX1_hoursLeft, Cond.instanceMethod yX1_hoursLeft, Cond.selects RX1 yX1_hoursLeft yX1_hoursLeft, Cond.code yX1_hoursLeft cX1_hoursLeft 1 (some .int), Cond.constant RX1 34 (65535), Cond.methodLink RX4 33 yX4_run, Cond.instanceMethod yX4_run, Cond.selects RX4 yX4_run yX4_run, Cond.code yX4_run cX4_run 2 none, Cond.fieldLink RX4 18 "SharedShadow$Rest" "have" "[I"]
def wsX7_cloud_r3 : List Cond := [Cond.methodLink RX4 46 yX1_havers, Cond.instanceMethod yX1_havers, Cond.selects RX1 yX1_havers yX1_havers, Cond.code yX1_havers cX1_havers 3 (some .int), Cond.static yX7_bit, Cond.initialized RX7, Cond.code yX7_bit cX7_bit 2 (some .int), Cond.methodLink RX1 93 yX1_stronger, Cond.instanceMethod yX1_stronger, Cond.selects RX1 yX1_stronger yX1_stronger, Cond.code yX1_stronger cX1_stronger 6 (some .int), Cond.methodLink RX1 78 Lib.Math.min.name, Cond.static Lib.Math.min.name, Cond.initialized "java/lang/Math", Cond.code Lib.Math.min.name Lib.Math.min.code 2 (some .int), Cond.methodLink RX1 84 Lib.Math.max.name, Cond.static Lib.Math.max.name, Cond.code Lib.Math.max.name Lib.Math.max.code 2 (some .int), Cond.methodLink RX1 87 yX1_claimOf, Cond.instanceMethod yX1_claimOf, Cond.selects RX1 yX1_claimOf yX1_claimOf, Cond.code yX1_claimOf cX1_claimOf 5 (some .int), Cond.methodLink RX4 49 yX1_passHour, Cond.instanceMethod yX1_passHour]
def wsX7_cloud_r4 : List Cond := [Cond.selects RX1 yX1_passHour yX1_passHour, Cond.code yX1_passHour cX1_passHour 5 none, Cond.methodLink RX1 104 yX1_tally, Cond.instanceMethod yX1_tally, Cond.selects RX1 yX1_tally yX1_tally, Cond.code yX1_tally cX1_tally 2 none, Cond.methodLink RX7 157 yX4_metOfAll, Cond.instanceMethod yX4_metOfAll, Cond.selects RX4 yX4_metOfAll yX4_metOfAll, Cond.code yX4_metOfAll cX4_metOfAll 3 (some .int), Cond.fieldLink RX4 79 "SharedShadow$Land" "people" "I", Cond.methodLink RX4 82 yX4_metOf, Cond.instanceMethod yX4_metOf, Cond.selects RX4 yX4_metOf yX4_metOf, Cond.code yX4_metOf cX4_metOf 2 (some .int), Cond.fieldLink RX4 57 "SharedShadow$Land" "needs" "[I", Cond.methodLink RX4 67 yX1_isPerson, Cond.instanceMethod yX1_isPerson, Cond.selects RX1 yX1_isPerson yX1_isPerson, Cond.code yX1_isPerson cX1_isPerson 2 (some .boolean), Cond.methodLink RX4 71 yX4_servedOf, Cond.instanceMethod yX4_servedOf, Cond.selects RX4 yX4_servedOf yX4_servedOf, Cond.code yX4_servedOf cX4_servedOf 2 (some .int)]
def wsX7_cloud_r5 : List Cond := [Cond.fieldLink RX4 60 "SharedShadow$Land" "lit" "I", Cond.methodLink RX4 63 yX4_shadeOf, Cond.instanceMethod yX4_shadeOf, Cond.selects RX4 yX4_shadeOf yX4_shadeOf, Cond.code yX4_shadeOf cX4_shadeOf 4 (some .int), Cond.methodLink RX4 74 yJ6_bitCount_0f7a4, Cond.static yJ6_bitCount_0f7a4, Cond.initialized RJ6, Cond.code yJ6_bitCount_0f7a4 cJ6_bitCount_0f7a4 1 (some .int), Cond.constant RJ6 265 (1431655765), Cond.constant RJ6 266 (858993459), Cond.constant RJ6 267 (252645135), Cond.methodLink RX7 163 yX4_begin, Cond.methodLink RX7 169 yX4_run]
def wsX7_cloud : List Cond := .code yX7_cloud cX7_cloud 4 (some .int) :: ((wsX7_cloud_r1 ++ (wsX7_cloud_r2 ++ (wsX7_cloud_r3 ++ (wsX7_cloud_r4 ++ wsX7_cloud_r5)))) ++ wsX70 ++ wsX40 ++ wsX10)
def wsX7_agree_r1 : List Cond := [Cond.fieldLink RX7 10 "SharedShadow" "land" "LSharedShadow$Land;", Cond.fieldLink RX7 29 "SharedShadow" "agreement" "LSharedShadow$Agreement;", Cond.methodLink RX7 121 yX1_areTwo, Cond.instanceMethod yX1_areTwo, Cond.selects RX1 yX1_areTwo yX1_areTwo, Cond.initialized RX1, Cond.code yX1_areTwo cX1_areTwo 3 (some .boolean), Cond.methodLink RX1 56 yX1_isPerson, Cond.instanceMethod yX1_isPerson, Cond.selects RX1 yX1_isPerson yX1_isPerson, Cond.code yX1_isPerson cX1_isPerson 2 (some .boolean), Cond.fieldLink RX1 30 "SharedShadow$Land" "people" "I", Cond.methodLink RX7 71 yX7_found, Cond.instanceMethod yX7_found, Cond.selects RX7 yX7_found yX7_found, Cond.initialized RX7, Cond.code yX7_found cX7_found 2 (some .int), Cond.fieldLink RX7 58 "SharedShadow" "findings" "[I", Cond.constant RX7 306 (-1000001), Cond.methodLink RX7 172 yX0_make, Cond.instanceMethod yX0_make, Cond.selects RX0 yX0_make yX0_make, Cond.initialized RX0, Cond.code yX0_make cX0_make 4 none]
def wsX7_agree_r2 : List Cond := [Cond.fieldLink RX0 9 "SharedShadow$Agreement" "who" "[I", Cond.methodLink RX0 37 Lib.Math.min.name, Cond.static Lib.Math.min.name, Cond.initialized "java/lang/Math", Cond.code Lib.Math.min.name Lib.Math.min.code 2 (some .int), Cond.methodLink RX0 43 Lib.Math.max.name, Cond.static Lib.Math.max.name, Cond.code Lib.Math.max.name Lib.Math.max.code 2 (some .int), Cond.fieldLink RX0 15 "SharedShadow$Agreement" "needs" "[I", Cond.fieldLink RX0 46 "SharedShadow$Land" "needs" "[I", Cond.fieldLink RX0 51 "SharedShadow$Land" "lit" "I", Cond.fieldLink RX0 24 "SharedShadow$Agreement" "shared" "I", Cond.fieldLink RX0 28 "SharedShadow$Agreement" "dark" "I", Cond.methodLink RX0 31 yX1_areTwo, Cond.methodLink RX0 47 yX1_hoursLeft, Cond.instanceMethod yX1_hoursLeft, Cond.selects RX1 yX1_hoursLeft yX1_hoursLeft, Cond.code yX1_hoursLeft cX1_hoursLeft 1 (some .int), Cond.constant RX1 34 (65535), Cond.fieldLink RX1 38 "SharedShadow$Land" "hour" "I", Cond.methodLink RX0 54 yX0_weighBehind, Cond.instanceMethod yX0_weighBehind, Cond.selects RX0 yX0_weighBehind yX0_weighBehind, Cond.code yX0_weighBehind cX0_weighBehind 5 none]
def wsX7_agree_r3 : List Cond := [Cond.fieldLink RX0 21 "SharedShadow$Agreement" "behind" "[I", Cond.methodLink RX0 60 yX0_worthOf, Cond.instanceMethod yX0_worthOf, Cond.selects RX0 yX0_worthOf yX0_worthOf, Cond.code yX0_worthOf cX0_worthOf 3 (some .int), Cond.static yX7_bit, Cond.code yX7_bit cX7_bit 2 (some .int), Cond.methodLink RX0 57 yX0_choose, Cond.instanceMethod yX0_choose, Cond.selects RX0 yX0_choose yX0_choose, Cond.code yX0_choose cX0_choose 5 none, Cond.fieldLink RX0 18 "SharedShadow$Agreement" "held" "[I", Cond.methodLink RX7 176 yX0_metOfBoth, Cond.instanceMethod yX0_metOfBoth, Cond.selects RX0 yX0_metOfBoth yX0_metOfBoth, Cond.code yX0_metOfBoth cX0_metOfBoth 1 (some .int), Cond.methodLink RX0 75 yX0_metOfSide, Cond.instanceMethod yX0_metOfSide, Cond.selects RX0 yX0_metOfSide yX0_metOfSide, Cond.code yX0_metOfSide cX0_metOfSide 2 (some .int), Cond.static yX7_isWithin, Cond.code yX7_isWithin cX7_isWithin 2 (some .boolean), Cond.methodLink RX0 69 yJ6_bitCount_0f7a4, Cond.static yJ6_bitCount_0f7a4]
def wsX7_agree_r4 : List Cond := [Cond.initialized RJ6, Cond.code yJ6_bitCount_0f7a4 cJ6_bitCount_0f7a4 1 (some .int), Cond.constant RJ6 265 (1431655765), Cond.constant RJ6 266 (858993459), Cond.constant RJ6 267 (252645135)]
def wsX7_agree : List Cond := .code yX7_agree cX7_agree 3 (some .int) :: ((wsX7_agree_r1 ++ (wsX7_agree_r2 ++ (wsX7_agree_r3 ++ wsX7_agree_r4))) ++ wsX70 ++ wsX10 ++ wsX00)
def wsX7_changes_r1 : List Cond := [Cond.fieldLink RX7 10 "SharedShadow" "land" "LSharedShadow$Land;", Cond.fieldLink RX7 29 "SharedShadow" "agreement" "LSharedShadow$Agreement;", Cond.methodLink RX7 121 yX1_areTwo, Cond.instanceMethod yX1_areTwo, Cond.selects RX1 yX1_areTwo yX1_areTwo, Cond.initialized RX1, Cond.code yX1_areTwo cX1_areTwo 3 (some .boolean), Cond.methodLink RX1 56 yX1_isPerson, Cond.instanceMethod yX1_isPerson, Cond.selects RX1 yX1_isPerson yX1_isPerson, Cond.code yX1_isPerson cX1_isPerson 2 (some .boolean), Cond.fieldLink RX1 30 "SharedShadow$Land" "people" "I", Cond.methodLink RX7 71 yX7_found, Cond.instanceMethod yX7_found, Cond.selects RX7 yX7_found yX7_found, Cond.initialized RX7, Cond.code yX7_found cX7_found 2 (some .int), Cond.fieldLink RX7 58 "SharedShadow" "findings" "[I", Cond.constant RX7 306 (-1000001), Cond.methodLink RX7 172 yX0_make, Cond.instanceMethod yX0_make, Cond.selects RX0 yX0_make yX0_make, Cond.initialized RX0, Cond.code yX0_make cX0_make 4 none]
def wsX7_changes_r2 : List Cond := [Cond.fieldLink RX0 9 "SharedShadow$Agreement" "who" "[I", Cond.methodLink RX0 37 Lib.Math.min.name, Cond.static Lib.Math.min.name, Cond.initialized "java/lang/Math", Cond.code Lib.Math.min.name Lib.Math.min.code 2 (some .int), Cond.methodLink RX0 43 Lib.Math.max.name, Cond.static Lib.Math.max.name, Cond.code Lib.Math.max.name Lib.Math.max.code 2 (some .int), Cond.fieldLink RX0 15 "SharedShadow$Agreement" "needs" "[I", Cond.fieldLink RX0 46 "SharedShadow$Land" "needs" "[I", Cond.fieldLink RX0 51 "SharedShadow$Land" "lit" "I", Cond.fieldLink RX0 24 "SharedShadow$Agreement" "shared" "I", Cond.fieldLink RX0 28 "SharedShadow$Agreement" "dark" "I", Cond.methodLink RX0 31 yX1_areTwo, Cond.methodLink RX0 47 yX1_hoursLeft, Cond.instanceMethod yX1_hoursLeft, Cond.selects RX1 yX1_hoursLeft yX1_hoursLeft, Cond.code yX1_hoursLeft cX1_hoursLeft 1 (some .int), Cond.constant RX1 34 (65535), Cond.fieldLink RX1 38 "SharedShadow$Land" "hour" "I", Cond.methodLink RX0 54 yX0_weighBehind, Cond.instanceMethod yX0_weighBehind, Cond.selects RX0 yX0_weighBehind yX0_weighBehind, Cond.code yX0_weighBehind cX0_weighBehind 5 none]
def wsX7_changes_r3 : List Cond := [Cond.fieldLink RX0 21 "SharedShadow$Agreement" "behind" "[I", Cond.methodLink RX0 60 yX0_worthOf, Cond.instanceMethod yX0_worthOf, Cond.selects RX0 yX0_worthOf yX0_worthOf, Cond.code yX0_worthOf cX0_worthOf 3 (some .int), Cond.static yX7_bit, Cond.code yX7_bit cX7_bit 2 (some .int), Cond.methodLink RX0 57 yX0_choose, Cond.instanceMethod yX0_choose, Cond.selects RX0 yX0_choose yX0_choose, Cond.code yX0_choose cX0_choose 5 none, Cond.fieldLink RX0 18 "SharedShadow$Agreement" "held" "[I", Cond.methodLink RX7 179 yX0_countChanges, Cond.instanceMethod yX0_countChanges, Cond.selects RX0 yX0_countChanges yX0_countChanges, Cond.code yX0_countChanges cX0_countChanges 5 (some .int)]
def wsX7_changes : List Cond := .code yX7_changes cX7_changes 3 (some .int) :: ((wsX7_changes_r1 ++ (wsX7_changes_r2 ++ wsX7_changes_r3)) ++ wsX70 ++ wsX10 ++ wsX00)
def wsX7_holder_r1 : List Cond := [Cond.fieldLink RX7 10 "SharedShadow" "land" "LSharedShadow$Land;", Cond.fieldLink RX7 29 "SharedShadow" "agreement" "LSharedShadow$Agreement;", Cond.methodLink RX7 121 yX1_areTwo, Cond.instanceMethod yX1_areTwo, Cond.selects RX1 yX1_areTwo yX1_areTwo, Cond.initialized RX1, Cond.code yX1_areTwo cX1_areTwo 3 (some .boolean), Cond.methodLink RX1 56 yX1_isPerson, Cond.instanceMethod yX1_isPerson, Cond.selects RX1 yX1_isPerson yX1_isPerson, Cond.code yX1_isPerson cX1_isPerson 2 (some .boolean), Cond.fieldLink RX1 30 "SharedShadow$Land" "people" "I", Cond.methodLink RX7 67 yX7_isWithin, Cond.static yX7_isWithin, Cond.initialized RX7, Cond.code yX7_isWithin cX7_isWithin 2 (some .boolean), Cond.methodLink RX7 71 yX7_found, Cond.instanceMethod yX7_found, Cond.selects RX7 yX7_found yX7_found, Cond.code yX7_found cX7_found 2 (some .int), Cond.fieldLink RX7 58 "SharedShadow" "findings" "[I", Cond.constant RX7 306 (-1000001), Cond.methodLink RX7 172 yX0_make, Cond.instanceMethod yX0_make]
def wsX7_holder_r2 : List Cond := [Cond.selects RX0 yX0_make yX0_make, Cond.initialized RX0, Cond.code yX0_make cX0_make 4 none, Cond.fieldLink RX0 9 "SharedShadow$Agreement" "who" "[I", Cond.methodLink RX0 37 Lib.Math.min.name, Cond.static Lib.Math.min.name, Cond.initialized "java/lang/Math", Cond.code Lib.Math.min.name Lib.Math.min.code 2 (some .int), Cond.methodLink RX0 43 Lib.Math.max.name, Cond.static Lib.Math.max.name, Cond.code Lib.Math.max.name Lib.Math.max.code 2 (some .int), Cond.fieldLink RX0 15 "SharedShadow$Agreement" "needs" "[I", Cond.fieldLink RX0 46 "SharedShadow$Land" "needs" "[I", Cond.fieldLink RX0 51 "SharedShadow$Land" "lit" "I", Cond.fieldLink RX0 24 "SharedShadow$Agreement" "shared" "I", Cond.fieldLink RX0 28 "SharedShadow$Agreement" "dark" "I", Cond.methodLink RX0 31 yX1_areTwo, Cond.methodLink RX0 47 yX1_hoursLeft, Cond.instanceMethod yX1_hoursLeft, Cond.selects RX1 yX1_hoursLeft yX1_hoursLeft, Cond.code yX1_hoursLeft cX1_hoursLeft 1 (some .int), Cond.constant RX1 34 (65535), Cond.fieldLink RX1 38 "SharedShadow$Land" "hour" "I", Cond.methodLink RX0 54 yX0_weighBehind]
def wsX7_holder_r3 : List Cond := [Cond.instanceMethod yX0_weighBehind, Cond.selects RX0 yX0_weighBehind yX0_weighBehind, Cond.code yX0_weighBehind cX0_weighBehind 5 none, Cond.fieldLink RX0 21 "SharedShadow$Agreement" "behind" "[I", Cond.methodLink RX0 60 yX0_worthOf, Cond.instanceMethod yX0_worthOf, Cond.selects RX0 yX0_worthOf yX0_worthOf, Cond.code yX0_worthOf cX0_worthOf 3 (some .int), Cond.static yX7_bit, Cond.code yX7_bit cX7_bit 2 (some .int), Cond.methodLink RX0 57 yX0_choose, Cond.instanceMethod yX0_choose, Cond.selects RX0 yX0_choose yX0_choose, Cond.code yX0_choose cX0_choose 5 none, Cond.fieldLink RX0 18 "SharedShadow$Agreement" "held" "[I", Cond.methodLink RX7 182 yX0_holderAt, Cond.instanceMethod yX0_holderAt, Cond.selects RX0 yX0_holderAt yX0_holderAt, Cond.code yX0_holderAt cX0_holderAt 2 (some .int)]
def wsX7_holder : List Cond := .code yX7_holder cX7_holder 5 (some .int) :: ((wsX7_holder_r1 ++ (wsX7_holder_r2 ++ wsX7_holder_r3)) ++ wsX70 ++ wsX10 ++ wsX00)
def wsX7_gain_r1 : List Cond := [Cond.fieldLink RX7 10 "SharedShadow" "land" "LSharedShadow$Land;", Cond.fieldLink RX7 29 "SharedShadow" "agreement" "LSharedShadow$Agreement;", Cond.fieldLink RX7 22 "SharedShadow" "rest" "LSharedShadow$Rest;", Cond.fieldLink RX7 166 "SharedShadow$Rest" "to" "LSharedShadow$Land;", Cond.methodLink RX7 121 yX1_areTwo, Cond.instanceMethod yX1_areTwo, Cond.selects RX1 yX1_areTwo yX1_areTwo, Cond.initialized RX1, Cond.code yX1_areTwo cX1_areTwo 3 (some .boolean), Cond.methodLink RX1 56 yX1_isPerson, Cond.instanceMethod yX1_isPerson, Cond.selects RX1 yX1_isPerson yX1_isPerson, Cond.code yX1_isPerson cX1_isPerson 2 (some .boolean), Cond.fieldLink RX1 30 "SharedShadow$Land" "people" "I", Cond.methodLink RX7 71 yX7_found, Cond.instanceMethod yX7_found, Cond.selects RX7 yX7_found yX7_found, Cond.initialized RX7, Cond.code yX7_found cX7_found 2 (some .int), Cond.fieldLink RX7 58 "SharedShadow" "findings" "[I", Cond.constant RX7 306 (-1000001), Cond.methodLink RX7 172 yX0_make, Cond.instanceMethod yX0_make, Cond.selects RX0 yX0_make yX0_make]
def wsX7_gain_r2 : List Cond := [Cond.initialized RX0, Cond.code yX0_make cX0_make 4 none, Cond.fieldLink RX0 9 "SharedShadow$Agreement" "who" "[I", Cond.methodLink RX0 37 Lib.Math.min.name, Cond.static Lib.Math.min.name, Cond.initialized "java/lang/Math", Cond.code Lib.Math.min.name Lib.Math.min.code 2 (some .int), Cond.methodLink RX0 43 Lib.Math.max.name, Cond.static Lib.Math.max.name, Cond.code Lib.Math.max.name Lib.Math.max.code 2 (some .int), Cond.fieldLink RX0 15 "SharedShadow$Agreement" "needs" "[I", Cond.fieldLink RX0 46 "SharedShadow$Land" "needs" "[I", Cond.fieldLink RX0 51 "SharedShadow$Land" "lit" "I", Cond.fieldLink RX0 24 "SharedShadow$Agreement" "shared" "I", Cond.fieldLink RX0 28 "SharedShadow$Agreement" "dark" "I", Cond.methodLink RX0 31 yX1_areTwo, Cond.methodLink RX0 47 yX1_hoursLeft, Cond.instanceMethod yX1_hoursLeft, Cond.selects RX1 yX1_hoursLeft yX1_hoursLeft, Cond.code yX1_hoursLeft cX1_hoursLeft 1 (some .int), Cond.constant RX1 34 (65535), Cond.fieldLink RX1 38 "SharedShadow$Land" "hour" "I", Cond.methodLink RX0 54 yX0_weighBehind, Cond.instanceMethod yX0_weighBehind]
def wsX7_gain_r3 : List Cond := [Cond.selects RX0 yX0_weighBehind yX0_weighBehind, Cond.code yX0_weighBehind cX0_weighBehind 5 none, Cond.fieldLink RX0 21 "SharedShadow$Agreement" "behind" "[I", Cond.methodLink RX0 60 yX0_worthOf, Cond.instanceMethod yX0_worthOf, Cond.selects RX0 yX0_worthOf yX0_worthOf, Cond.code yX0_worthOf cX0_worthOf 3 (some .int), Cond.static yX7_bit, Cond.code yX7_bit cX7_bit 2 (some .int), Cond.methodLink RX0 57 yX0_choose, Cond.instanceMethod yX0_choose, Cond.selects RX0 yX0_choose yX0_choose, Cond.code yX0_choose cX0_choose 5 none, Cond.fieldLink RX0 18 "SharedShadow$Agreement" "held" "[I", Cond.methodLink RX7 163 yX4_begin, Cond.instanceMethod yX4_begin, Cond.selects RX4 yX4_begin yX4_begin, Cond.initialized RX4, Cond.code yX4_begin cX4_begin 2 none, Cond.fieldLink RX4 12 "SharedShadow$Rest" "to" "LSharedShadow$Land;", Cond.fieldLink RX4 39 "SharedShadow$Land" "hour" "I", Cond.fieldLink RX4 22 "SharedShadow$Rest" "first" "I", Cond.fieldLink RX4 26 "SharedShadow$Rest" "left" "I", Cond.methodLink RX4 36 yX1_become]
def wsX7_gain_r4 : List Cond := [Cond.instanceMethod yX1_become, Cond.selects RX1 yX1_become yX1_become, Cond.code yX1_become cX1_become 2 none, Cond.fieldLink RX1 9 "SharedShadow$Land" "kind" "[I", Cond.methodLink RX1 50 arraycopyName, Cond.native arraycopyName, Cond.static arraycopyName, Cond.initialized "java/lang/System", Cond.fieldLink RX1 15 "SharedShadow$Land" "sun" "[I", Cond.fieldLink RX1 18 "SharedShadow$Land" "strength" "[I", Cond.fieldLink RX1 21 "SharedShadow$Land" "needs" "[I", Cond.fieldLink RX1 24 "SharedShadow$Land" "partner" "[I", Cond.fieldLink RX1 27 "SharedShadow$Land" "spots" "[I", Cond.fieldLink RX1 35 "SharedShadow$Land" "lit" "I", Cond.fieldLink RX1 41 "SharedShadow$Land" "wereMet" "I", Cond.fieldLink RX1 44 "SharedShadow$Land" "wereMissed" "I", Cond.fieldLink RX1 47 "SharedShadow$Land" "drawn" "I", Cond.methodLink RX4 42 yX1_hoursLeft, Cond.methodLink RX7 124 yX1_join, Cond.instanceMethod yX1_join, Cond.selects RX1 yX1_join yX1_join, Cond.code yX1_join cX1_join 3 none, Cond.methodLink RX1 64 yX1_areTwo, Cond.methodLink RX1 68 yX1_separate]
def wsX7_gain_r5 : List Cond := [Cond.instanceMethod yX1_separate, Cond.selects RX1 yX1_separate yX1_separate, Cond.code yX1_separate cX1_separate 2 none, Cond.methodLink RX7 169 yX4_run, Cond.instanceMethod yX4_run, Cond.selects RX4 yX4_run yX4_run, Cond.code yX4_run cX4_run 2 none, Cond.fieldLink RX4 18 "SharedShadow$Rest" "have" "[I", Cond.methodLink RX4 46 yX1_havers, Cond.instanceMethod yX1_havers, Cond.selects RX1 yX1_havers yX1_havers, Cond.code yX1_havers cX1_havers 3 (some .int), Cond.methodLink RX1 93 yX1_stronger, Cond.instanceMethod yX1_stronger, Cond.selects RX1 yX1_stronger yX1_stronger, Cond.code yX1_stronger cX1_stronger 6 (some .int), Cond.methodLink RX1 78 Lib.Math.min.name, Cond.methodLink RX1 84 Lib.Math.max.name, Cond.methodLink RX1 87 yX1_claimOf, Cond.instanceMethod yX1_claimOf, Cond.selects RX1 yX1_claimOf yX1_claimOf, Cond.code yX1_claimOf cX1_claimOf 5 (some .int), Cond.methodLink RX4 49 yX1_passHour, Cond.instanceMethod yX1_passHour]
def wsX7_gain_r6 : List Cond := [Cond.selects RX1 yX1_passHour yX1_passHour, Cond.code yX1_passHour cX1_passHour 5 none, Cond.methodLink RX1 104 yX1_tally, Cond.instanceMethod yX1_tally, Cond.selects RX1 yX1_tally yX1_tally, Cond.code yX1_tally cX1_tally 2 none, Cond.methodLink RX7 176 yX0_metOfBoth, Cond.instanceMethod yX0_metOfBoth, Cond.selects RX0 yX0_metOfBoth yX0_metOfBoth, Cond.code yX0_metOfBoth cX0_metOfBoth 1 (some .int), Cond.methodLink RX0 75 yX0_metOfSide, Cond.instanceMethod yX0_metOfSide, Cond.selects RX0 yX0_metOfSide yX0_metOfSide, Cond.code yX0_metOfSide cX0_metOfSide 2 (some .int), Cond.static yX7_isWithin, Cond.code yX7_isWithin cX7_isWithin 2 (some .boolean), Cond.methodLink RX0 69 yJ6_bitCount_0f7a4, Cond.static yJ6_bitCount_0f7a4, Cond.initialized RJ6, Cond.code yJ6_bitCount_0f7a4 cJ6_bitCount_0f7a4 1 (some .int), Cond.constant RJ6 265 (1431655765), Cond.constant RJ6 266 (858993459), Cond.constant RJ6 267 (252645135), Cond.methodLink RX7 148 yX4_metOf]
def wsX7_gain_r7 : List Cond := [Cond.instanceMethod yX4_metOf, Cond.selects RX4 yX4_metOf yX4_metOf, Cond.code yX4_metOf cX4_metOf 2 (some .int), Cond.fieldLink RX4 57 "SharedShadow$Land" "needs" "[I", Cond.methodLink RX4 67 yX1_isPerson, Cond.methodLink RX4 71 yX4_servedOf, Cond.instanceMethod yX4_servedOf, Cond.selects RX4 yX4_servedOf yX4_servedOf, Cond.code yX4_servedOf cX4_servedOf 2 (some .int), Cond.fieldLink RX4 60 "SharedShadow$Land" "lit" "I", Cond.methodLink RX4 63 yX4_shadeOf, Cond.instanceMethod yX4_shadeOf, Cond.selects RX4 yX4_shadeOf yX4_shadeOf, Cond.code yX4_shadeOf cX4_shadeOf 4 (some .int), Cond.methodLink RX4 74 yJ6_bitCount_0f7a4]
def wsX7_gain : List Cond := .code yX7_gain cX7_gain 3 (some .int) :: ((wsX7_gain_r1 ++ (wsX7_gain_r2 ++ (wsX7_gain_r3 ++ (wsX7_gain_r4 ++ (wsX7_gain_r5 ++ (wsX7_gain_r6 ++ wsX7_gain_r7)))))) ++ wsX70 ++ wsX40 ++ wsX10 ++ wsX00)
def wsX7_weighByAgreements_r1 : List Cond := [Cond.fieldLink RX7 10 "SharedShadow" "land" "LSharedShadow$Land;", Cond.fieldLink RX7 200 "SharedShadow$Land" "people" "I", Cond.fieldLink RX7 36 "SharedShadow" "pairings" "LSharedShadow$Pairings;", Cond.fieldLink RX7 95 "SharedShadow$Land" "needs" "[I", Cond.fieldLink RX7 29 "SharedShadow" "agreement" "LSharedShadow$Agreement;", Cond.methodLink RX7 307 yX1_hoursLeft, Cond.instanceMethod yX1_hoursLeft, Cond.selects RX1 yX1_hoursLeft yX1_hoursLeft, Cond.initialized RX1, Cond.code yX1_hoursLeft cX1_hoursLeft 1 (some .int), Cond.constant RX1 34 (65535), Cond.fieldLink RX1 38 "SharedShadow$Land" "hour" "I", Cond.methodLink RX7 310 yJ6_bitCount_0f7a4, Cond.static yJ6_bitCount_0f7a4, Cond.initialized RJ6, Cond.code yJ6_bitCount_0f7a4 cJ6_bitCount_0f7a4 1 (some .int), Cond.constant RJ6 265 (1431655765), Cond.constant RJ6 266 (858993459), Cond.constant RJ6 267 (252645135), Cond.methodLink RX7 315 yX2_value, Cond.instanceMethod yX2_value, Cond.selects RX2 yX2_value yX2_value, Cond.initialized RX2, Cond.code yX2_value cX2_value 4 none]
def wsX7_weighByAgreements_r2 : List Cond := [Cond.fieldLink RX2 9 "SharedShadow$Pairings" "values" "[I", Cond.static yX7_isWithin, Cond.initialized RX7, Cond.code yX7_isWithin cX7_isWithin 2 (some .boolean), Cond.methodLink RX7 172 yX0_make, Cond.instanceMethod yX0_make, Cond.selects RX0 yX0_make yX0_make, Cond.initialized RX0, Cond.code yX0_make cX0_make 4 none, Cond.fieldLink RX0 9 "SharedShadow$Agreement" "who" "[I", Cond.methodLink RX0 37 Lib.Math.min.name, Cond.static Lib.Math.min.name, Cond.initialized "java/lang/Math", Cond.code Lib.Math.min.name Lib.Math.min.code 2 (some .int), Cond.methodLink RX0 43 Lib.Math.max.name, Cond.static Lib.Math.max.name, Cond.code Lib.Math.max.name Lib.Math.max.code 2 (some .int), Cond.fieldLink RX0 15 "SharedShadow$Agreement" "needs" "[I", Cond.fieldLink RX0 46 "SharedShadow$Land" "needs" "[I", Cond.fieldLink RX0 51 "SharedShadow$Land" "lit" "I", Cond.fieldLink RX0 24 "SharedShadow$Agreement" "shared" "I", Cond.fieldLink RX0 28 "SharedShadow$Agreement" "dark" "I", Cond.methodLink RX0 31 yX1_areTwo, Cond.instanceMethod yX1_areTwo]
def wsX7_weighByAgreements_r3 : List Cond := [Cond.selects RX1 yX1_areTwo yX1_areTwo, Cond.code yX1_areTwo cX1_areTwo 3 (some .boolean), Cond.methodLink RX1 56 yX1_isPerson, Cond.instanceMethod yX1_isPerson, Cond.selects RX1 yX1_isPerson yX1_isPerson, Cond.code yX1_isPerson cX1_isPerson 2 (some .boolean), Cond.fieldLink RX1 30 "SharedShadow$Land" "people" "I", Cond.methodLink RX0 47 yX1_hoursLeft, Cond.methodLink RX0 54 yX0_weighBehind, Cond.instanceMethod yX0_weighBehind, Cond.selects RX0 yX0_weighBehind yX0_weighBehind, Cond.code yX0_weighBehind cX0_weighBehind 5 none, Cond.fieldLink RX0 21 "SharedShadow$Agreement" "behind" "[I", Cond.methodLink RX0 60 yX0_worthOf, Cond.instanceMethod yX0_worthOf, Cond.selects RX0 yX0_worthOf yX0_worthOf, Cond.code yX0_worthOf cX0_worthOf 3 (some .int), Cond.static yX7_bit, Cond.code yX7_bit cX7_bit 2 (some .int), Cond.methodLink RX0 57 yX0_choose, Cond.instanceMethod yX0_choose, Cond.selects RX0 yX0_choose yX0_choose, Cond.code yX0_choose cX0_choose 5 none, Cond.fieldLink RX0 18 "SharedShadow$Agreement" "held" "[I"]
def wsX7_weighByAgreements_r4 : List Cond := [Cond.methodLink RX7 176 yX0_metOfBoth, Cond.instanceMethod yX0_metOfBoth, Cond.selects RX0 yX0_metOfBoth yX0_metOfBoth, Cond.code yX0_metOfBoth cX0_metOfBoth 1 (some .int), Cond.methodLink RX0 75 yX0_metOfSide, Cond.instanceMethod yX0_metOfSide, Cond.selects RX0 yX0_metOfSide yX0_metOfSide, Cond.code yX0_metOfSide cX0_metOfSide 2 (some .int), Cond.methodLink RX0 69 yJ6_bitCount_0f7a4, Cond.methodLink RX7 188 yX1_everybody, Cond.instanceMethod yX1_everybody, Cond.selects RX1 yX1_everybody yX1_everybody, Cond.code yX1_everybody cX1_everybody 1 (some .int), Cond.methodLink RX7 319 yX2_weigh, Cond.instanceMethod yX2_weigh, Cond.selects RX2 yX2_weigh yX2_weigh, Cond.code yX2_weigh cX2_weigh 3 none, Cond.fieldLink RX2 15 "SharedShadow$Pairings" "best" "[I", Cond.fieldLink RX2 18 "SharedShadow$Pairings" "number" "[I", Cond.methodLink RX2 34 yX2_weighSet, Cond.instanceMethod yX2_weighSet, Cond.selects RX2 yX2_weighSet yX2_weighSet, Cond.code yX2_weighSet cX2_weighSet 5 none, Cond.methodLink RX2 38 yX2_leastOf]
def wsX7_weighByAgreements_r5 : List Cond := [Cond.static yX2_leastOf, Cond.code yX2_leastOf cX2_leastOf 2 (some .int), Cond.methodLink RX2 42 yX2_worthWith, Cond.instanceMethod yX2_worthWith, Cond.selects RX2 yX2_worthWith yX2_worthWith, Cond.code yX2_worthWith cX2_worthWith 5 (some .int), Cond.methodLink RX2 52 yJ6_bitCount_0f7a4, Cond.methodLink RX2 57 yX2_valueOf, Cond.instanceMethod yX2_valueOf, Cond.selects RX2 yX2_valueOf yX2_valueOf, Cond.code yX2_valueOf cX2_valueOf 3 (some .int), Cond.methodLink RX2 25 Lib.Math.min.name, Cond.methodLink RX2 31 Lib.Math.max.name, Cond.methodLink RX2 46 yX2_without, Cond.static yX2_without, Cond.code yX2_without cX2_without 3 (some .int)]
def wsX7_weighByAgreements : List Cond := .code yX7_weighByAgreements cX7_weighByAgreements 3 none :: ((wsX7_weighByAgreements_r1 ++ (wsX7_weighByAgreements_r2 ++ (wsX7_weighByAgreements_r3 ++ (wsX7_weighByAgreements_r4 ++ wsX7_weighByAgreements_r5)))) ++ wsX70 ++ wsX10 ++ wsX20 ++ wsX00)
def wsX7_pairs_r1 : List Cond := [Cond.fieldLink RX7 36 "SharedShadow" "pairings" "LSharedShadow$Pairings;", Cond.fieldLink RX7 10 "SharedShadow" "land" "LSharedShadow$Land;", Cond.methodLink RX7 185 yX7_weighByAgreements, Cond.instanceMethod yX7_weighByAgreements, Cond.selects RX7 yX7_weighByAgreements yX7_weighByAgreements, Cond.initialized RX7, Cond.code yX7_weighByAgreements cX7_weighByAgreements 3 none, Cond.fieldLink RX7 200 "SharedShadow$Land" "people" "I", Cond.fieldLink RX7 95 "SharedShadow$Land" "needs" "[I", Cond.fieldLink RX7 29 "SharedShadow" "agreement" "LSharedShadow$Agreement;", Cond.methodLink RX7 307 yX1_hoursLeft, Cond.instanceMethod yX1_hoursLeft, Cond.selects RX1 yX1_hoursLeft yX1_hoursLeft, Cond.initialized RX1, Cond.code yX1_hoursLeft cX1_hoursLeft 1 (some .int), Cond.constant RX1 34 (65535), Cond.fieldLink RX1 38 "SharedShadow$Land" "hour" "I", Cond.methodLink RX7 310 yJ6_bitCount_0f7a4, Cond.static yJ6_bitCount_0f7a4, Cond.initialized RJ6, Cond.code yJ6_bitCount_0f7a4 cJ6_bitCount_0f7a4 1 (some .int), Cond.constant RJ6 265 (1431655765), Cond.constant RJ6 266 (858993459), Cond.constant RJ6 267 (252645135)]
def wsX7_pairs_r2 : List Cond := [Cond.methodLink RX7 315 yX2_value, Cond.instanceMethod yX2_value, Cond.selects RX2 yX2_value yX2_value, Cond.initialized RX2, Cond.code yX2_value cX2_value 4 none, Cond.fieldLink RX2 9 "SharedShadow$Pairings" "values" "[I", Cond.static yX7_isWithin, Cond.code yX7_isWithin cX7_isWithin 2 (some .boolean), Cond.methodLink RX7 172 yX0_make, Cond.instanceMethod yX0_make, Cond.selects RX0 yX0_make yX0_make, Cond.initialized RX0, Cond.code yX0_make cX0_make 4 none, Cond.fieldLink RX0 9 "SharedShadow$Agreement" "who" "[I", Cond.methodLink RX0 37 Lib.Math.min.name, Cond.static Lib.Math.min.name, Cond.initialized "java/lang/Math", Cond.code Lib.Math.min.name Lib.Math.min.code 2 (some .int), Cond.methodLink RX0 43 Lib.Math.max.name, Cond.static Lib.Math.max.name, Cond.code Lib.Math.max.name Lib.Math.max.code 2 (some .int), Cond.fieldLink RX0 15 "SharedShadow$Agreement" "needs" "[I", Cond.fieldLink RX0 46 "SharedShadow$Land" "needs" "[I", Cond.fieldLink RX0 51 "SharedShadow$Land" "lit" "I"]
def wsX7_pairs_r3 : List Cond := [Cond.fieldLink RX0 24 "SharedShadow$Agreement" "shared" "I", Cond.fieldLink RX0 28 "SharedShadow$Agreement" "dark" "I", Cond.methodLink RX0 31 yX1_areTwo, Cond.instanceMethod yX1_areTwo, Cond.selects RX1 yX1_areTwo yX1_areTwo, Cond.code yX1_areTwo cX1_areTwo 3 (some .boolean), Cond.methodLink RX1 56 yX1_isPerson, Cond.instanceMethod yX1_isPerson, Cond.selects RX1 yX1_isPerson yX1_isPerson, Cond.code yX1_isPerson cX1_isPerson 2 (some .boolean), Cond.fieldLink RX1 30 "SharedShadow$Land" "people" "I", Cond.methodLink RX0 47 yX1_hoursLeft, Cond.methodLink RX0 54 yX0_weighBehind, Cond.instanceMethod yX0_weighBehind, Cond.selects RX0 yX0_weighBehind yX0_weighBehind, Cond.code yX0_weighBehind cX0_weighBehind 5 none, Cond.fieldLink RX0 21 "SharedShadow$Agreement" "behind" "[I", Cond.methodLink RX0 60 yX0_worthOf, Cond.instanceMethod yX0_worthOf, Cond.selects RX0 yX0_worthOf yX0_worthOf, Cond.code yX0_worthOf cX0_worthOf 3 (some .int), Cond.static yX7_bit, Cond.code yX7_bit cX7_bit 2 (some .int), Cond.methodLink RX0 57 yX0_choose]
def wsX7_pairs_r4 : List Cond := [Cond.instanceMethod yX0_choose, Cond.selects RX0 yX0_choose yX0_choose, Cond.code yX0_choose cX0_choose 5 none, Cond.fieldLink RX0 18 "SharedShadow$Agreement" "held" "[I", Cond.methodLink RX7 176 yX0_metOfBoth, Cond.instanceMethod yX0_metOfBoth, Cond.selects RX0 yX0_metOfBoth yX0_metOfBoth, Cond.code yX0_metOfBoth cX0_metOfBoth 1 (some .int), Cond.methodLink RX0 75 yX0_metOfSide, Cond.instanceMethod yX0_metOfSide, Cond.selects RX0 yX0_metOfSide yX0_metOfSide, Cond.code yX0_metOfSide cX0_metOfSide 2 (some .int), Cond.methodLink RX0 69 yJ6_bitCount_0f7a4, Cond.methodLink RX7 188 yX1_everybody, Cond.instanceMethod yX1_everybody, Cond.selects RX1 yX1_everybody yX1_everybody, Cond.code yX1_everybody cX1_everybody 1 (some .int), Cond.methodLink RX7 319 yX2_weigh, Cond.instanceMethod yX2_weigh, Cond.selects RX2 yX2_weigh yX2_weigh, Cond.code yX2_weigh cX2_weigh 3 none, Cond.fieldLink RX2 15 "SharedShadow$Pairings" "best" "[I", Cond.fieldLink RX2 18 "SharedShadow$Pairings" "number" "[I", Cond.methodLink RX2 34 yX2_weighSet]
def wsX7_pairs_r5 : List Cond := [Cond.instanceMethod yX2_weighSet, Cond.selects RX2 yX2_weighSet yX2_weighSet, Cond.code yX2_weighSet cX2_weighSet 5 none, Cond.methodLink RX2 38 yX2_leastOf, Cond.static yX2_leastOf, Cond.code yX2_leastOf cX2_leastOf 2 (some .int), Cond.methodLink RX2 42 yX2_worthWith, Cond.instanceMethod yX2_worthWith, Cond.selects RX2 yX2_worthWith yX2_worthWith, Cond.code yX2_worthWith cX2_worthWith 5 (some .int), Cond.methodLink RX2 52 yJ6_bitCount_0f7a4, Cond.methodLink RX2 57 yX2_valueOf, Cond.instanceMethod yX2_valueOf, Cond.selects RX2 yX2_valueOf yX2_valueOf, Cond.code yX2_valueOf cX2_valueOf 3 (some .int), Cond.methodLink RX2 25 Lib.Math.min.name, Cond.methodLink RX2 31 Lib.Math.max.name, Cond.methodLink RX2 46 yX2_without, Cond.static yX2_without, Cond.code yX2_without cX2_without 3 (some .int), Cond.methodLink RX7 191 yX2_bestOf, Cond.instanceMethod yX2_bestOf, Cond.selects RX2 yX2_bestOf yX2_bestOf, Cond.code yX2_bestOf cX2_bestOf 2 (some .int)]
def wsX7_pairs : List Cond := .code yX7_pairs cX7_pairs 1 (some .int) :: ((wsX7_pairs_r1 ++ (wsX7_pairs_r2 ++ (wsX7_pairs_r3 ++ (wsX7_pairs_r4 ++ wsX7_pairs_r5)))) ++ wsX70 ++ wsX10 ++ wsX20 ++ wsX00)
def wsX7_mate_r1 : List Cond := [Cond.fieldLink RX7 10 "SharedShadow" "land" "LSharedShadow$Land;", Cond.fieldLink RX7 36 "SharedShadow" "pairings" "LSharedShadow$Pairings;", Cond.methodLink RX7 82 yX1_isPerson, Cond.instanceMethod yX1_isPerson, Cond.selects RX1 yX1_isPerson yX1_isPerson, Cond.initialized RX1, Cond.code yX1_isPerson cX1_isPerson 2 (some .boolean), Cond.fieldLink RX1 30 "SharedShadow$Land" "people" "I", Cond.methodLink RX7 71 yX7_found, Cond.instanceMethod yX7_found, Cond.selects RX7 yX7_found yX7_found, Cond.initialized RX7, Cond.code yX7_found cX7_found 2 (some .int), Cond.fieldLink RX7 58 "SharedShadow" "findings" "[I", Cond.constant RX7 306 (-1000001), Cond.methodLink RX7 185 yX7_weighByAgreements, Cond.instanceMethod yX7_weighByAgreements, Cond.selects RX7 yX7_weighByAgreements yX7_weighByAgreements, Cond.code yX7_weighByAgreements cX7_weighByAgreements 3 none, Cond.fieldLink RX7 200 "SharedShadow$Land" "people" "I", Cond.fieldLink RX7 95 "SharedShadow$Land" "needs" "[I", Cond.fieldLink RX7 29 "SharedShadow" "agreement" "LSharedShadow$Agreement;", Cond.methodLink RX7 307 yX1_hoursLeft, Cond.instanceMethod yX1_hoursLeft]
def wsX7_mate_r2 : List Cond := [Cond.selects RX1 yX1_hoursLeft yX1_hoursLeft, Cond.code yX1_hoursLeft cX1_hoursLeft 1 (some .int), Cond.constant RX1 34 (65535), Cond.fieldLink RX1 38 "SharedShadow$Land" "hour" "I", Cond.methodLink RX7 310 yJ6_bitCount_0f7a4, Cond.static yJ6_bitCount_0f7a4, Cond.initialized RJ6, Cond.code yJ6_bitCount_0f7a4 cJ6_bitCount_0f7a4 1 (some .int), Cond.constant RJ6 265 (1431655765), Cond.constant RJ6 266 (858993459), Cond.constant RJ6 267 (252645135), Cond.methodLink RX7 315 yX2_value, Cond.instanceMethod yX2_value, Cond.selects RX2 yX2_value yX2_value, Cond.initialized RX2, Cond.code yX2_value cX2_value 4 none, Cond.fieldLink RX2 9 "SharedShadow$Pairings" "values" "[I", Cond.static yX7_isWithin, Cond.code yX7_isWithin cX7_isWithin 2 (some .boolean), Cond.methodLink RX7 172 yX0_make, Cond.instanceMethod yX0_make, Cond.selects RX0 yX0_make yX0_make, Cond.initialized RX0, Cond.code yX0_make cX0_make 4 none]
def wsX7_mate_r3 : List Cond := [Cond.fieldLink RX0 9 "SharedShadow$Agreement" "who" "[I", Cond.methodLink RX0 37 Lib.Math.min.name, Cond.static Lib.Math.min.name, Cond.initialized "java/lang/Math", Cond.code Lib.Math.min.name Lib.Math.min.code 2 (some .int), Cond.methodLink RX0 43 Lib.Math.max.name, Cond.static Lib.Math.max.name, Cond.code Lib.Math.max.name Lib.Math.max.code 2 (some .int), Cond.fieldLink RX0 15 "SharedShadow$Agreement" "needs" "[I", Cond.fieldLink RX0 46 "SharedShadow$Land" "needs" "[I", Cond.fieldLink RX0 51 "SharedShadow$Land" "lit" "I", Cond.fieldLink RX0 24 "SharedShadow$Agreement" "shared" "I", Cond.fieldLink RX0 28 "SharedShadow$Agreement" "dark" "I", Cond.methodLink RX0 31 yX1_areTwo, Cond.instanceMethod yX1_areTwo, Cond.selects RX1 yX1_areTwo yX1_areTwo, Cond.code yX1_areTwo cX1_areTwo 3 (some .boolean), Cond.methodLink RX1 56 yX1_isPerson, Cond.methodLink RX0 47 yX1_hoursLeft, Cond.methodLink RX0 54 yX0_weighBehind, Cond.instanceMethod yX0_weighBehind, Cond.selects RX0 yX0_weighBehind yX0_weighBehind, Cond.code yX0_weighBehind cX0_weighBehind 5 none, Cond.fieldLink RX0 21 "SharedShadow$Agreement" "behind" "[I"]
def wsX7_mate_r4 : List Cond := [Cond.methodLink RX0 60 yX0_worthOf, Cond.instanceMethod yX0_worthOf, Cond.selects RX0 yX0_worthOf yX0_worthOf, Cond.code yX0_worthOf cX0_worthOf 3 (some .int), Cond.static yX7_bit, Cond.code yX7_bit cX7_bit 2 (some .int), Cond.methodLink RX0 57 yX0_choose, Cond.instanceMethod yX0_choose, Cond.selects RX0 yX0_choose yX0_choose, Cond.code yX0_choose cX0_choose 5 none, Cond.fieldLink RX0 18 "SharedShadow$Agreement" "held" "[I", Cond.methodLink RX7 176 yX0_metOfBoth, Cond.instanceMethod yX0_metOfBoth, Cond.selects RX0 yX0_metOfBoth yX0_metOfBoth, Cond.code yX0_metOfBoth cX0_metOfBoth 1 (some .int), Cond.methodLink RX0 75 yX0_metOfSide, Cond.instanceMethod yX0_metOfSide, Cond.selects RX0 yX0_metOfSide yX0_metOfSide, Cond.code yX0_metOfSide cX0_metOfSide 2 (some .int), Cond.methodLink RX0 69 yJ6_bitCount_0f7a4, Cond.methodLink RX7 188 yX1_everybody, Cond.instanceMethod yX1_everybody, Cond.selects RX1 yX1_everybody yX1_everybody, Cond.code yX1_everybody cX1_everybody 1 (some .int)]
def wsX7_mate_r5 : List Cond := [Cond.methodLink RX7 319 yX2_weigh, Cond.instanceMethod yX2_weigh, Cond.selects RX2 yX2_weigh yX2_weigh, Cond.code yX2_weigh cX2_weigh 3 none, Cond.fieldLink RX2 15 "SharedShadow$Pairings" "best" "[I", Cond.fieldLink RX2 18 "SharedShadow$Pairings" "number" "[I", Cond.methodLink RX2 34 yX2_weighSet, Cond.instanceMethod yX2_weighSet, Cond.selects RX2 yX2_weighSet yX2_weighSet, Cond.code yX2_weighSet cX2_weighSet 5 none, Cond.methodLink RX2 38 yX2_leastOf, Cond.static yX2_leastOf, Cond.code yX2_leastOf cX2_leastOf 2 (some .int), Cond.methodLink RX2 42 yX2_worthWith, Cond.instanceMethod yX2_worthWith, Cond.selects RX2 yX2_worthWith yX2_worthWith, Cond.code yX2_worthWith cX2_worthWith 5 (some .int), Cond.methodLink RX2 52 yJ6_bitCount_0f7a4, Cond.methodLink RX2 57 yX2_valueOf, Cond.instanceMethod yX2_valueOf, Cond.selects RX2 yX2_valueOf yX2_valueOf, Cond.code yX2_valueOf cX2_valueOf 3 (some .int), Cond.methodLink RX2 25 Lib.Math.min.name, Cond.methodLink RX2 31 Lib.Math.max.name]
def wsX7_mate_r6 : List Cond := [Cond.methodLink RX2 46 yX2_without, Cond.static yX2_without, Cond.code yX2_without cX2_without 3 (some .int), Cond.methodLink RX7 194 yX2_firstMateOf, Cond.instanceMethod yX2_firstMateOf, Cond.selects RX2 yX2_firstMateOf yX2_firstMateOf, Cond.code yX2_firstMateOf cX2_firstMateOf 7 (some .int), Cond.methodLink RX2 60 yX2_firstBest, Cond.instanceMethod yX2_firstBest, Cond.selects RX2 yX2_firstBest yX2_firstBest, Cond.code yX2_firstBest cX2_firstBest 4 (some .int)]
def wsX7_mate : List Cond := .code yX7_mate cX7_mate 2 (some .int) :: ((wsX7_mate_r1 ++ (wsX7_mate_r2 ++ (wsX7_mate_r3 ++ (wsX7_mate_r4 ++ (wsX7_mate_r5 ++ wsX7_mate_r6))))) ++ wsX70 ++ wsX10 ++ wsX20 ++ wsX00)
def wsX7_ways_r1 : List Cond := [Cond.fieldLink RX7 36 "SharedShadow" "pairings" "LSharedShadow$Pairings;", Cond.fieldLink RX7 10 "SharedShadow" "land" "LSharedShadow$Land;", Cond.methodLink RX7 185 yX7_weighByAgreements, Cond.instanceMethod yX7_weighByAgreements, Cond.selects RX7 yX7_weighByAgreements yX7_weighByAgreements, Cond.initialized RX7, Cond.code yX7_weighByAgreements cX7_weighByAgreements 3 none, Cond.fieldLink RX7 200 "SharedShadow$Land" "people" "I", Cond.fieldLink RX7 95 "SharedShadow$Land" "needs" "[I", Cond.fieldLink RX7 29 "SharedShadow" "agreement" "LSharedShadow$Agreement;", Cond.methodLink RX7 307 yX1_hoursLeft, Cond.instanceMethod yX1_hoursLeft, Cond.selects RX1 yX1_hoursLeft yX1_hoursLeft, Cond.initialized RX1, Cond.code yX1_hoursLeft cX1_hoursLeft 1 (some .int), Cond.constant RX1 34 (65535), Cond.fieldLink RX1 38 "SharedShadow$Land" "hour" "I", Cond.methodLink RX7 310 yJ6_bitCount_0f7a4, Cond.static yJ6_bitCount_0f7a4, Cond.initialized RJ6, Cond.code yJ6_bitCount_0f7a4 cJ6_bitCount_0f7a4 1 (some .int), Cond.constant RJ6 265 (1431655765), Cond.constant RJ6 266 (858993459), Cond.constant RJ6 267 (252645135)]
def wsX7_ways_r2 : List Cond := [Cond.methodLink RX7 315 yX2_value, Cond.instanceMethod yX2_value, Cond.selects RX2 yX2_value yX2_value, Cond.initialized RX2, Cond.code yX2_value cX2_value 4 none, Cond.fieldLink RX2 9 "SharedShadow$Pairings" "values" "[I", Cond.static yX7_isWithin, Cond.code yX7_isWithin cX7_isWithin 2 (some .boolean), Cond.methodLink RX7 172 yX0_make, Cond.instanceMethod yX0_make, Cond.selects RX0 yX0_make yX0_make, Cond.initialized RX0, Cond.code yX0_make cX0_make 4 none, Cond.fieldLink RX0 9 "SharedShadow$Agreement" "who" "[I", Cond.methodLink RX0 37 Lib.Math.min.name, Cond.static Lib.Math.min.name, Cond.initialized "java/lang/Math", Cond.code Lib.Math.min.name Lib.Math.min.code 2 (some .int), Cond.methodLink RX0 43 Lib.Math.max.name, Cond.static Lib.Math.max.name, Cond.code Lib.Math.max.name Lib.Math.max.code 2 (some .int), Cond.fieldLink RX0 15 "SharedShadow$Agreement" "needs" "[I", Cond.fieldLink RX0 46 "SharedShadow$Land" "needs" "[I", Cond.fieldLink RX0 51 "SharedShadow$Land" "lit" "I"]
def wsX7_ways_r3 : List Cond := [Cond.fieldLink RX0 24 "SharedShadow$Agreement" "shared" "I", Cond.fieldLink RX0 28 "SharedShadow$Agreement" "dark" "I", Cond.methodLink RX0 31 yX1_areTwo, Cond.instanceMethod yX1_areTwo, Cond.selects RX1 yX1_areTwo yX1_areTwo, Cond.code yX1_areTwo cX1_areTwo 3 (some .boolean), Cond.methodLink RX1 56 yX1_isPerson, Cond.instanceMethod yX1_isPerson, Cond.selects RX1 yX1_isPerson yX1_isPerson, Cond.code yX1_isPerson cX1_isPerson 2 (some .boolean), Cond.fieldLink RX1 30 "SharedShadow$Land" "people" "I", Cond.methodLink RX0 47 yX1_hoursLeft, Cond.methodLink RX0 54 yX0_weighBehind, Cond.instanceMethod yX0_weighBehind, Cond.selects RX0 yX0_weighBehind yX0_weighBehind, Cond.code yX0_weighBehind cX0_weighBehind 5 none, Cond.fieldLink RX0 21 "SharedShadow$Agreement" "behind" "[I", Cond.methodLink RX0 60 yX0_worthOf, Cond.instanceMethod yX0_worthOf, Cond.selects RX0 yX0_worthOf yX0_worthOf, Cond.code yX0_worthOf cX0_worthOf 3 (some .int), Cond.static yX7_bit, Cond.code yX7_bit cX7_bit 2 (some .int), Cond.methodLink RX0 57 yX0_choose]
def wsX7_ways_r4 : List Cond := [Cond.instanceMethod yX0_choose, Cond.selects RX0 yX0_choose yX0_choose, Cond.code yX0_choose cX0_choose 5 none, Cond.fieldLink RX0 18 "SharedShadow$Agreement" "held" "[I", Cond.methodLink RX7 176 yX0_metOfBoth, Cond.instanceMethod yX0_metOfBoth, Cond.selects RX0 yX0_metOfBoth yX0_metOfBoth, Cond.code yX0_metOfBoth cX0_metOfBoth 1 (some .int), Cond.methodLink RX0 75 yX0_metOfSide, Cond.instanceMethod yX0_metOfSide, Cond.selects RX0 yX0_metOfSide yX0_metOfSide, Cond.code yX0_metOfSide cX0_metOfSide 2 (some .int), Cond.methodLink RX0 69 yJ6_bitCount_0f7a4, Cond.methodLink RX7 188 yX1_everybody, Cond.instanceMethod yX1_everybody, Cond.selects RX1 yX1_everybody yX1_everybody, Cond.code yX1_everybody cX1_everybody 1 (some .int), Cond.methodLink RX7 319 yX2_weigh, Cond.instanceMethod yX2_weigh, Cond.selects RX2 yX2_weigh yX2_weigh, Cond.code yX2_weigh cX2_weigh 3 none, Cond.fieldLink RX2 15 "SharedShadow$Pairings" "best" "[I", Cond.fieldLink RX2 18 "SharedShadow$Pairings" "number" "[I", Cond.methodLink RX2 34 yX2_weighSet]
def wsX7_ways_r5 : List Cond := [Cond.instanceMethod yX2_weighSet, Cond.selects RX2 yX2_weighSet yX2_weighSet, Cond.code yX2_weighSet cX2_weighSet 5 none, Cond.methodLink RX2 38 yX2_leastOf, Cond.static yX2_leastOf, Cond.code yX2_leastOf cX2_leastOf 2 (some .int), Cond.methodLink RX2 42 yX2_worthWith, Cond.instanceMethod yX2_worthWith, Cond.selects RX2 yX2_worthWith yX2_worthWith, Cond.code yX2_worthWith cX2_worthWith 5 (some .int), Cond.methodLink RX2 52 yJ6_bitCount_0f7a4, Cond.methodLink RX2 57 yX2_valueOf, Cond.instanceMethod yX2_valueOf, Cond.selects RX2 yX2_valueOf yX2_valueOf, Cond.code yX2_valueOf cX2_valueOf 3 (some .int), Cond.methodLink RX2 25 Lib.Math.min.name, Cond.methodLink RX2 31 Lib.Math.max.name, Cond.methodLink RX2 46 yX2_without, Cond.static yX2_without, Cond.code yX2_without cX2_without 3 (some .int), Cond.methodLink RX7 197 yX2_waysOf, Cond.instanceMethod yX2_waysOf, Cond.selects RX2 yX2_waysOf yX2_waysOf, Cond.code yX2_waysOf cX2_waysOf 2 (some .int)]
def wsX7_ways : List Cond := .code yX7_ways cX7_ways 1 (some .int) :: ((wsX7_ways_r1 ++ (wsX7_ways_r2 ++ (wsX7_ways_r3 ++ (wsX7_ways_r4 ++ wsX7_ways_r5)))) ++ wsX70 ++ wsX10 ++ wsX20 ++ wsX00)
def wsX7_wouldRatherAgree_r1 : List Cond := [Cond.fieldLink RX7 29 "SharedShadow" "agreement" "LSharedShadow$Agreement;", Cond.fieldLink RX7 10 "SharedShadow" "land" "LSharedShadow$Land;", Cond.fieldLink RX7 22 "SharedShadow" "rest" "LSharedShadow$Rest;", Cond.methodLink RX7 172 yX0_make, Cond.instanceMethod yX0_make, Cond.selects RX0 yX0_make yX0_make, Cond.initialized RX0, Cond.code yX0_make cX0_make 4 none, Cond.fieldLink RX0 9 "SharedShadow$Agreement" "who" "[I", Cond.methodLink RX0 37 Lib.Math.min.name, Cond.static Lib.Math.min.name, Cond.initialized "java/lang/Math", Cond.code Lib.Math.min.name Lib.Math.min.code 2 (some .int), Cond.methodLink RX0 43 Lib.Math.max.name, Cond.static Lib.Math.max.name, Cond.code Lib.Math.max.name Lib.Math.max.code 2 (some .int), Cond.fieldLink RX0 15 "SharedShadow$Agreement" "needs" "[I", Cond.fieldLink RX0 46 "SharedShadow$Land" "needs" "[I", Cond.fieldLink RX0 51 "SharedShadow$Land" "lit" "I", Cond.fieldLink RX0 24 "SharedShadow$Agreement" "shared" "I", Cond.fieldLink RX0 28 "SharedShadow$Agreement" "dark" "I", Cond.methodLink RX0 31 yX1_areTwo, Cond.instanceMethod yX1_areTwo, Cond.selects RX1 yX1_areTwo yX1_areTwo]
def wsX7_wouldRatherAgree_r2 : List Cond := [Cond.initialized RX1, Cond.code yX1_areTwo cX1_areTwo 3 (some .boolean), Cond.methodLink RX1 56 yX1_isPerson, Cond.instanceMethod yX1_isPerson, Cond.selects RX1 yX1_isPerson yX1_isPerson, Cond.code yX1_isPerson cX1_isPerson 2 (some .boolean), Cond.fieldLink RX1 30 "SharedShadow$Land" "people" "I", Cond.methodLink RX0 47 yX1_hoursLeft, Cond.instanceMethod yX1_hoursLeft, Cond.selects RX1 yX1_hoursLeft yX1_hoursLeft, Cond.code yX1_hoursLeft cX1_hoursLeft 1 (some .int), Cond.constant RX1 34 (65535), Cond.fieldLink RX1 38 "SharedShadow$Land" "hour" "I", Cond.methodLink RX0 54 yX0_weighBehind, Cond.instanceMethod yX0_weighBehind, Cond.selects RX0 yX0_weighBehind yX0_weighBehind, Cond.code yX0_weighBehind cX0_weighBehind 5 none, Cond.fieldLink RX0 21 "SharedShadow$Agreement" "behind" "[I", Cond.methodLink RX0 60 yX0_worthOf, Cond.instanceMethod yX0_worthOf, Cond.selects RX0 yX0_worthOf yX0_worthOf, Cond.code yX0_worthOf cX0_worthOf 3 (some .int), Cond.static yX7_bit, Cond.initialized RX7]
def wsX7_wouldRatherAgree_r3 : List Cond := [Cond.code yX7_bit cX7_bit 2 (some .int), Cond.methodLink RX0 57 yX0_choose, Cond.instanceMethod yX0_choose, Cond.selects RX0 yX0_choose yX0_choose, Cond.code yX0_choose cX0_choose 5 none, Cond.fieldLink RX0 18 "SharedShadow$Agreement" "held" "[I", Cond.methodLink RX7 329 yX0_metOfSide, Cond.instanceMethod yX0_metOfSide, Cond.selects RX0 yX0_metOfSide yX0_metOfSide, Cond.code yX0_metOfSide cX0_metOfSide 2 (some .int), Cond.static yX7_isWithin, Cond.code yX7_isWithin cX7_isWithin 2 (some .boolean), Cond.methodLink RX0 69 yJ6_bitCount_0f7a4, Cond.static yJ6_bitCount_0f7a4, Cond.initialized RJ6, Cond.code yJ6_bitCount_0f7a4 cJ6_bitCount_0f7a4 1 (some .int), Cond.constant RJ6 265 (1431655765), Cond.constant RJ6 266 (858993459), Cond.constant RJ6 267 (252645135), Cond.methodLink RX7 148 yX4_metOf, Cond.instanceMethod yX4_metOf, Cond.selects RX4 yX4_metOf yX4_metOf, Cond.initialized RX4, Cond.code yX4_metOf cX4_metOf 2 (some .int)]
def wsX7_wouldRatherAgree_r4 : List Cond := [Cond.fieldLink RX4 12 "SharedShadow$Rest" "to" "LSharedShadow$Land;", Cond.fieldLink RX4 57 "SharedShadow$Land" "needs" "[I", Cond.methodLink RX4 67 yX1_isPerson, Cond.methodLink RX4 71 yX4_servedOf, Cond.instanceMethod yX4_servedOf, Cond.selects RX4 yX4_servedOf yX4_servedOf, Cond.code yX4_servedOf cX4_servedOf 2 (some .int), Cond.fieldLink RX4 60 "SharedShadow$Land" "lit" "I", Cond.fieldLink RX4 26 "SharedShadow$Rest" "left" "I", Cond.methodLink RX4 63 yX4_shadeOf, Cond.instanceMethod yX4_shadeOf, Cond.selects RX4 yX4_shadeOf yX4_shadeOf, Cond.code yX4_shadeOf cX4_shadeOf 4 (some .int), Cond.fieldLink RX4 18 "SharedShadow$Rest" "have" "[I", Cond.methodLink RX4 74 yJ6_bitCount_0f7a4]
def wsX7_wouldRatherAgree : List Cond := .code yX7_wouldRatherAgree cX7_wouldRatherAgree 3 (some .boolean) :: ((wsX7_wouldRatherAgree_r1 ++ (wsX7_wouldRatherAgree_r2 ++ (wsX7_wouldRatherAgree_r3 ++ wsX7_wouldRatherAgree_r4))) ++ wsX70 ++ wsX00 ++ wsX10 ++ wsX40)
def wsX7_broken_r1 : List Cond := [Cond.fieldLink RX7 22 "SharedShadow" "rest" "LSharedShadow$Rest;", Cond.fieldLink RX7 10 "SharedShadow" "land" "LSharedShadow$Land;", Cond.fieldLink RX7 200 "SharedShadow$Land" "people" "I", Cond.fieldLink RX7 98 "SharedShadow$Land" "partner" "[I", Cond.methodLink RX7 144 yX4_see, Cond.instanceMethod yX4_see, Cond.selects RX4 yX4_see yX4_see, Cond.initialized RX4, Cond.code yX4_see cX4_see 2 none, Cond.methodLink RX4 29 yX4_begin, Cond.instanceMethod yX4_begin, Cond.selects RX4 yX4_begin yX4_begin, Cond.code yX4_begin cX4_begin 2 none, Cond.fieldLink RX4 12 "SharedShadow$Rest" "to" "LSharedShadow$Land;", Cond.fieldLink RX4 39 "SharedShadow$Land" "hour" "I", Cond.fieldLink RX4 22 "SharedShadow$Rest" "first" "I", Cond.fieldLink RX4 26 "SharedShadow$Rest" "left" "I", Cond.methodLink RX4 36 yX1_become, Cond.instanceMethod yX1_become, Cond.selects RX1 yX1_become yX1_become, Cond.initialized RX1, Cond.code yX1_become cX1_become 2 none, Cond.fieldLink RX1 9 "SharedShadow$Land" "kind" "[I", Cond.methodLink RX1 50 arraycopyName]
def wsX7_broken_r2 : List Cond := [Cond.native arraycopyName, Cond.static arraycopyName, Cond.initialized "java/lang/System", Cond.fieldLink RX1 15 "SharedShadow$Land" "sun" "[I", Cond.fieldLink RX1 18 "SharedShadow$Land" "strength" "[I", Cond.fieldLink RX1 21 "SharedShadow$Land" "needs" "[I", Cond.fieldLink RX1 24 "SharedShadow$Land" "partner" "[I", Cond.fieldLink RX1 27 "SharedShadow$Land" "spots" "[I", Cond.fieldLink RX1 30 "SharedShadow$Land" "people" "I", Cond.fieldLink RX1 35 "SharedShadow$Land" "lit" "I", Cond.fieldLink RX1 38 "SharedShadow$Land" "hour" "I", Cond.fieldLink RX1 41 "SharedShadow$Land" "wereMet" "I", Cond.fieldLink RX1 44 "SharedShadow$Land" "wereMissed" "I", Cond.fieldLink RX1 47 "SharedShadow$Land" "drawn" "I", Cond.methodLink RX4 42 yX1_hoursLeft, Cond.instanceMethod yX1_hoursLeft, Cond.selects RX1 yX1_hoursLeft yX1_hoursLeft, Cond.code yX1_hoursLeft cX1_hoursLeft 1 (some .int), Cond.constant RX1 34 (65535), Cond.methodLink RX4 33 yX4_run, Cond.instanceMethod yX4_run, Cond.selects RX4 yX4_run yX4_run, Cond.code yX4_run cX4_run 2 none, Cond.fieldLink RX4 18 "SharedShadow$Rest" "have" "[I"]
def wsX7_broken_r3 : List Cond := [Cond.methodLink RX4 46 yX1_havers, Cond.instanceMethod yX1_havers, Cond.selects RX1 yX1_havers yX1_havers, Cond.code yX1_havers cX1_havers 3 (some .int), Cond.static yX7_bit, Cond.initialized RX7, Cond.code yX7_bit cX7_bit 2 (some .int), Cond.methodLink RX1 93 yX1_stronger, Cond.instanceMethod yX1_stronger, Cond.selects RX1 yX1_stronger yX1_stronger, Cond.code yX1_stronger cX1_stronger 6 (some .int), Cond.methodLink RX1 78 Lib.Math.min.name, Cond.static Lib.Math.min.name, Cond.initialized "java/lang/Math", Cond.code Lib.Math.min.name Lib.Math.min.code 2 (some .int), Cond.methodLink RX1 84 Lib.Math.max.name, Cond.static Lib.Math.max.name, Cond.code Lib.Math.max.name Lib.Math.max.code 2 (some .int), Cond.methodLink RX1 87 yX1_claimOf, Cond.instanceMethod yX1_claimOf, Cond.selects RX1 yX1_claimOf yX1_claimOf, Cond.code yX1_claimOf cX1_claimOf 5 (some .int), Cond.methodLink RX4 49 yX1_passHour, Cond.instanceMethod yX1_passHour]
def wsX7_broken_r4 : List Cond := [Cond.selects RX1 yX1_passHour yX1_passHour, Cond.code yX1_passHour cX1_passHour 5 none, Cond.methodLink RX1 104 yX1_tally, Cond.instanceMethod yX1_tally, Cond.selects RX1 yX1_tally yX1_tally, Cond.code yX1_tally cX1_tally 2 none, Cond.methodLink RX7 203 yX7_wouldRatherAgree, Cond.instanceMethod yX7_wouldRatherAgree, Cond.selects RX7 yX7_wouldRatherAgree yX7_wouldRatherAgree, Cond.code yX7_wouldRatherAgree cX7_wouldRatherAgree 3 (some .boolean), Cond.fieldLink RX7 29 "SharedShadow" "agreement" "LSharedShadow$Agreement;", Cond.methodLink RX7 172 yX0_make, Cond.instanceMethod yX0_make, Cond.selects RX0 yX0_make yX0_make, Cond.initialized RX0, Cond.code yX0_make cX0_make 4 none, Cond.fieldLink RX0 9 "SharedShadow$Agreement" "who" "[I", Cond.methodLink RX0 37 Lib.Math.min.name, Cond.methodLink RX0 43 Lib.Math.max.name, Cond.fieldLink RX0 15 "SharedShadow$Agreement" "needs" "[I", Cond.fieldLink RX0 46 "SharedShadow$Land" "needs" "[I", Cond.fieldLink RX0 51 "SharedShadow$Land" "lit" "I", Cond.fieldLink RX0 24 "SharedShadow$Agreement" "shared" "I", Cond.fieldLink RX0 28 "SharedShadow$Agreement" "dark" "I"]
def wsX7_broken_r5 : List Cond := [Cond.methodLink RX0 31 yX1_areTwo, Cond.instanceMethod yX1_areTwo, Cond.selects RX1 yX1_areTwo yX1_areTwo, Cond.code yX1_areTwo cX1_areTwo 3 (some .boolean), Cond.methodLink RX1 56 yX1_isPerson, Cond.instanceMethod yX1_isPerson, Cond.selects RX1 yX1_isPerson yX1_isPerson, Cond.code yX1_isPerson cX1_isPerson 2 (some .boolean), Cond.methodLink RX0 47 yX1_hoursLeft, Cond.methodLink RX0 54 yX0_weighBehind, Cond.instanceMethod yX0_weighBehind, Cond.selects RX0 yX0_weighBehind yX0_weighBehind, Cond.code yX0_weighBehind cX0_weighBehind 5 none, Cond.fieldLink RX0 21 "SharedShadow$Agreement" "behind" "[I", Cond.methodLink RX0 60 yX0_worthOf, Cond.instanceMethod yX0_worthOf, Cond.selects RX0 yX0_worthOf yX0_worthOf, Cond.code yX0_worthOf cX0_worthOf 3 (some .int), Cond.methodLink RX0 57 yX0_choose, Cond.instanceMethod yX0_choose, Cond.selects RX0 yX0_choose yX0_choose, Cond.code yX0_choose cX0_choose 5 none, Cond.fieldLink RX0 18 "SharedShadow$Agreement" "held" "[I", Cond.methodLink RX7 329 yX0_metOfSide]
def wsX7_broken_r6 : List Cond := [Cond.instanceMethod yX0_metOfSide, Cond.selects RX0 yX0_metOfSide yX0_metOfSide, Cond.code yX0_metOfSide cX0_metOfSide 2 (some .int), Cond.static yX7_isWithin, Cond.code yX7_isWithin cX7_isWithin 2 (some .boolean), Cond.methodLink RX0 69 yJ6_bitCount_0f7a4, Cond.static yJ6_bitCount_0f7a4, Cond.initialized RJ6, Cond.code yJ6_bitCount_0f7a4 cJ6_bitCount_0f7a4 1 (some .int), Cond.constant RJ6 265 (1431655765), Cond.constant RJ6 266 (858993459), Cond.constant RJ6 267 (252645135), Cond.methodLink RX7 148 yX4_metOf, Cond.instanceMethod yX4_metOf, Cond.selects RX4 yX4_metOf yX4_metOf, Cond.code yX4_metOf cX4_metOf 2 (some .int), Cond.fieldLink RX4 57 "SharedShadow$Land" "needs" "[I", Cond.methodLink RX4 67 yX1_isPerson, Cond.methodLink RX4 71 yX4_servedOf, Cond.instanceMethod yX4_servedOf, Cond.selects RX4 yX4_servedOf yX4_servedOf, Cond.code yX4_servedOf cX4_servedOf 2 (some .int), Cond.fieldLink RX4 60 "SharedShadow$Land" "lit" "I", Cond.methodLink RX4 63 yX4_shadeOf]
def wsX7_broken_r7 : List Cond := [Cond.instanceMethod yX4_shadeOf, Cond.selects RX4 yX4_shadeOf yX4_shadeOf, Cond.code yX4_shadeOf cX4_shadeOf 4 (some .int), Cond.methodLink RX4 74 yJ6_bitCount_0f7a4, Cond.methodLink RX7 71 yX7_found, Cond.instanceMethod yX7_found, Cond.selects RX7 yX7_found yX7_found, Cond.code yX7_found cX7_found 2 (some .int), Cond.fieldLink RX7 58 "SharedShadow" "findings" "[I", Cond.constant RX7 306 (-1000001)]
def wsX7_broken : List Cond := .code yX7_broken cX7_broken 3 (some .int) :: ((wsX7_broken_r1 ++ (wsX7_broken_r2 ++ (wsX7_broken_r3 ++ (wsX7_broken_r4 ++ (wsX7_broken_r5 ++ (wsX7_broken_r6 ++ wsX7_broken_r7)))))) ++ wsX70 ++ wsX10 ++ wsX40 ++ wsX00)
def wsX7_isSheet : List Cond := .code yX7_isSheet cX7_isSheet 1 (some .boolean) :: ([.methodLink RX7 67 yX7_isWithin, .static yX7_isWithin, .initialized RX7, .code yX7_isWithin cX7_isWithin 2 (some .boolean)])
def wsX7_lackOf : List Cond := .code yX7_lackOf cX7_lackOf 2 (some .int) :: ([.fieldLink RX7 54 "SharedShadow" "sheets" "[LSharedShadow$Sheet;", .methodLink RX7 259 yX7_isSheet, .static yX7_isSheet, .initialized RX7, .code yX7_isSheet cX7_isSheet 1 (some .boolean), .methodLink RX7 67 yX7_isWithin, .static yX7_isWithin, .code yX7_isWithin cX7_isWithin 2 (some .boolean), .methodLink RX7 269 yX5_isMissing, .instanceMethod yX5_isMissing, .selects RX5 yX5_isMissing yX5_isMissing, .initialized RX5, .code yX5_isMissing cX5_isMissing 1 (some .boolean), .fieldLink RX5 15 "SharedShadow$Sheet" "bits" "I"] ++ wsX70 ++ wsX50)
def wsX7_weighByShade_r1 : List Cond := [Cond.fieldLink RX7 10 "SharedShadow" "land" "LSharedShadow$Land;", Cond.fieldLink RX7 101 "SharedShadow$Land" "hour" "I", Cond.fieldLink RX7 200 "SharedShadow$Land" "people" "I", Cond.fieldLink RX7 22 "SharedShadow" "rest" "LSharedShadow$Rest;", Cond.fieldLink RX7 166 "SharedShadow$Rest" "to" "LSharedShadow$Land;", Cond.fieldLink RX7 36 "SharedShadow" "pairings" "LSharedShadow$Pairings;", Cond.methodLink RX7 188 yX1_everybody, Cond.instanceMethod yX1_everybody, Cond.selects RX1 yX1_everybody yX1_everybody, Cond.initialized RX1, Cond.code yX1_everybody cX1_everybody 1 (some .int), Cond.fieldLink RX1 30 "SharedShadow$Land" "people" "I", Cond.methodLink RX7 322 yX5_tellsSetsOf, Cond.instanceMethod yX5_tellsSetsOf, Cond.selects RX5 yX5_tellsSetsOf yX5_tellsSetsOf, Cond.initialized RX5, Cond.code yX5_tellsSetsOf cX5_tellsSetsOf 4 (some .boolean), Cond.fieldLink RX5 19 "SharedShadow$Sheet" "length" "I", Cond.fieldLink RX5 9 "SharedShadow$Sheet" "numbers" "[I", Cond.methodLink RX7 163 yX4_begin, Cond.instanceMethod yX4_begin, Cond.selects RX4 yX4_begin yX4_begin, Cond.initialized RX4, Cond.code yX4_begin cX4_begin 2 none]
def wsX7_weighByShade_r2 : List Cond := [Cond.fieldLink RX4 12 "SharedShadow$Rest" "to" "LSharedShadow$Land;", Cond.fieldLink RX4 39 "SharedShadow$Land" "hour" "I", Cond.fieldLink RX4 22 "SharedShadow$Rest" "first" "I", Cond.fieldLink RX4 26 "SharedShadow$Rest" "left" "I", Cond.methodLink RX4 36 yX1_become, Cond.instanceMethod yX1_become, Cond.selects RX1 yX1_become yX1_become, Cond.code yX1_become cX1_become 2 none, Cond.fieldLink RX1 9 "SharedShadow$Land" "kind" "[I", Cond.methodLink RX1 50 arraycopyName, Cond.native arraycopyName, Cond.static arraycopyName, Cond.initialized "java/lang/System", Cond.fieldLink RX1 15 "SharedShadow$Land" "sun" "[I", Cond.fieldLink RX1 18 "SharedShadow$Land" "strength" "[I", Cond.fieldLink RX1 21 "SharedShadow$Land" "needs" "[I", Cond.fieldLink RX1 24 "SharedShadow$Land" "partner" "[I", Cond.fieldLink RX1 27 "SharedShadow$Land" "spots" "[I", Cond.fieldLink RX1 35 "SharedShadow$Land" "lit" "I", Cond.fieldLink RX1 38 "SharedShadow$Land" "hour" "I", Cond.fieldLink RX1 41 "SharedShadow$Land" "wereMet" "I", Cond.fieldLink RX1 44 "SharedShadow$Land" "wereMissed" "I", Cond.fieldLink RX1 47 "SharedShadow$Land" "drawn" "I", Cond.methodLink RX4 42 yX1_hoursLeft]
def wsX7_weighByShade_r3 : List Cond := [Cond.instanceMethod yX1_hoursLeft, Cond.selects RX1 yX1_hoursLeft yX1_hoursLeft, Cond.code yX1_hoursLeft cX1_hoursLeft 1 (some .int), Cond.constant RX1 34 (65535), Cond.methodLink RX7 128 yX1_separate, Cond.instanceMethod yX1_separate, Cond.selects RX1 yX1_separate yX1_separate, Cond.code yX1_separate cX1_separate 2 none, Cond.methodLink RX1 56 yX1_isPerson, Cond.instanceMethod yX1_isPerson, Cond.selects RX1 yX1_isPerson yX1_isPerson, Cond.code yX1_isPerson cX1_isPerson 2 (some .boolean), Cond.methodLink RX7 124 yX1_join, Cond.instanceMethod yX1_join, Cond.selects RX1 yX1_join yX1_join, Cond.code yX1_join cX1_join 3 none, Cond.methodLink RX1 64 yX1_areTwo, Cond.instanceMethod yX1_areTwo, Cond.selects RX1 yX1_areTwo yX1_areTwo, Cond.code yX1_areTwo cX1_areTwo 3 (some .boolean), Cond.methodLink RX1 68 yX1_separate, Cond.methodLink RX7 169 yX4_run, Cond.instanceMethod yX4_run, Cond.selects RX4 yX4_run yX4_run]
def wsX7_weighByShade_r4 : List Cond := [Cond.code yX4_run cX4_run 2 none, Cond.fieldLink RX4 18 "SharedShadow$Rest" "have" "[I", Cond.methodLink RX4 46 yX1_havers, Cond.instanceMethod yX1_havers, Cond.selects RX1 yX1_havers yX1_havers, Cond.code yX1_havers cX1_havers 3 (some .int), Cond.static yX7_bit, Cond.initialized RX7, Cond.code yX7_bit cX7_bit 2 (some .int), Cond.methodLink RX1 93 yX1_stronger, Cond.instanceMethod yX1_stronger, Cond.selects RX1 yX1_stronger yX1_stronger, Cond.code yX1_stronger cX1_stronger 6 (some .int), Cond.methodLink RX1 78 Lib.Math.min.name, Cond.static Lib.Math.min.name, Cond.initialized "java/lang/Math", Cond.code Lib.Math.min.name Lib.Math.min.code 2 (some .int), Cond.methodLink RX1 84 Lib.Math.max.name, Cond.static Lib.Math.max.name, Cond.code Lib.Math.max.name Lib.Math.max.code 2 (some .int), Cond.methodLink RX1 87 yX1_claimOf, Cond.instanceMethod yX1_claimOf, Cond.selects RX1 yX1_claimOf yX1_claimOf, Cond.code yX1_claimOf cX1_claimOf 5 (some .int)]
def wsX7_weighByShade_r5 : List Cond := [Cond.methodLink RX4 49 yX1_passHour, Cond.instanceMethod yX1_passHour, Cond.selects RX1 yX1_passHour yX1_passHour, Cond.code yX1_passHour cX1_passHour 5 none, Cond.methodLink RX1 104 yX1_tally, Cond.instanceMethod yX1_tally, Cond.selects RX1 yX1_tally yX1_tally, Cond.code yX1_tally cX1_tally 2 none, Cond.methodLink RX7 325 yX4_isShadeOf, Cond.instanceMethod yX4_isShadeOf, Cond.selects RX4 yX4_isShadeOf yX4_isShadeOf, Cond.code yX4_isShadeOf cX4_isShadeOf 4 (some .boolean), Cond.fieldLink RX4 88 "SharedShadow$Sheet" "length" "I", Cond.fieldLink RX4 93 "SharedShadow$Sheet" "numbers" "[I", Cond.methodLink RX7 315 yX2_value, Cond.instanceMethod yX2_value, Cond.selects RX2 yX2_value yX2_value, Cond.initialized RX2, Cond.code yX2_value cX2_value 4 none, Cond.fieldLink RX2 9 "SharedShadow$Pairings" "values" "[I", Cond.static yX7_isWithin, Cond.code yX7_isWithin cX7_isWithin 2 (some .boolean), Cond.methodLink RX7 319 yX2_weigh, Cond.instanceMethod yX2_weigh]
def wsX7_weighByShade_r6 : List Cond := [Cond.selects RX2 yX2_weigh yX2_weigh, Cond.code yX2_weigh cX2_weigh 3 none, Cond.fieldLink RX2 15 "SharedShadow$Pairings" "best" "[I", Cond.fieldLink RX2 18 "SharedShadow$Pairings" "number" "[I", Cond.methodLink RX2 34 yX2_weighSet, Cond.instanceMethod yX2_weighSet, Cond.selects RX2 yX2_weighSet yX2_weighSet, Cond.code yX2_weighSet cX2_weighSet 5 none, Cond.methodLink RX2 38 yX2_leastOf, Cond.static yX2_leastOf, Cond.code yX2_leastOf cX2_leastOf 2 (some .int), Cond.methodLink RX2 42 yX2_worthWith, Cond.instanceMethod yX2_worthWith, Cond.selects RX2 yX2_worthWith yX2_worthWith, Cond.code yX2_worthWith cX2_worthWith 5 (some .int), Cond.methodLink RX2 52 yJ6_bitCount_0f7a4, Cond.static yJ6_bitCount_0f7a4, Cond.initialized RJ6, Cond.code yJ6_bitCount_0f7a4 cJ6_bitCount_0f7a4 1 (some .int), Cond.constant RJ6 265 (1431655765), Cond.constant RJ6 266 (858993459), Cond.constant RJ6 267 (252645135), Cond.methodLink RX2 57 yX2_valueOf, Cond.instanceMethod yX2_valueOf]
def wsX7_weighByShade_r7 : List Cond := [Cond.selects RX2 yX2_valueOf yX2_valueOf, Cond.code yX2_valueOf cX2_valueOf 3 (some .int), Cond.methodLink RX2 25 Lib.Math.min.name, Cond.methodLink RX2 31 Lib.Math.max.name, Cond.methodLink RX2 46 yX2_without, Cond.static yX2_without, Cond.code yX2_without cX2_without 3 (some .int)]
def wsX7_weighByShade : List Cond := .code yX7_weighByShade cX7_weighByShade 4 (some .boolean) :: ((wsX7_weighByShade_r1 ++ (wsX7_weighByShade_r2 ++ (wsX7_weighByShade_r3 ++ (wsX7_weighByShade_r4 ++ (wsX7_weighByShade_r5 ++ (wsX7_weighByShade_r6 ++ wsX7_weighByShade_r7)))))) ++ wsX70 ++ wsX10 ++ wsX40 ++ wsX50 ++ wsX20)
def wsX7_fits_r1 : List Cond := [Cond.fieldLink RX7 54 "SharedShadow" "sheets" "[LSharedShadow$Sheet;", Cond.fieldLink RX7 36 "SharedShadow" "pairings" "LSharedShadow$Pairings;", Cond.fieldLink RX7 10 "SharedShadow" "land" "LSharedShadow$Land;", Cond.methodLink RX7 206 yX7_lackOf, Cond.instanceMethod yX7_lackOf, Cond.selects RX7 yX7_lackOf yX7_lackOf, Cond.initialized RX7, Cond.code yX7_lackOf cX7_lackOf 2 (some .int), Cond.methodLink RX7 259 yX7_isSheet, Cond.static yX7_isSheet, Cond.code yX7_isSheet cX7_isSheet 1 (some .boolean), Cond.methodLink RX7 67 yX7_isWithin, Cond.static yX7_isWithin, Cond.code yX7_isWithin cX7_isWithin 2 (some .boolean), Cond.methodLink RX7 269 yX5_isMissing, Cond.instanceMethod yX5_isMissing, Cond.selects RX5 yX5_isMissing yX5_isMissing, Cond.initialized RX5, Cond.code yX5_isMissing cX5_isMissing 1 (some .boolean), Cond.fieldLink RX5 15 "SharedShadow$Sheet" "bits" "I", Cond.methodLink RX7 71 yX7_found, Cond.instanceMethod yX7_found, Cond.selects RX7 yX7_found yX7_found, Cond.code yX7_found cX7_found 2 (some .int)]
def wsX7_fits_r2 : List Cond := [Cond.fieldLink RX7 58 "SharedShadow" "findings" "[I", Cond.constant RX7 306 (-1000001), Cond.methodLink RX7 209 yX7_weighByShade, Cond.instanceMethod yX7_weighByShade, Cond.selects RX7 yX7_weighByShade yX7_weighByShade, Cond.code yX7_weighByShade cX7_weighByShade 4 (some .boolean), Cond.fieldLink RX7 101 "SharedShadow$Land" "hour" "I", Cond.fieldLink RX7 200 "SharedShadow$Land" "people" "I", Cond.fieldLink RX7 22 "SharedShadow" "rest" "LSharedShadow$Rest;", Cond.fieldLink RX7 166 "SharedShadow$Rest" "to" "LSharedShadow$Land;", Cond.methodLink RX7 188 yX1_everybody, Cond.instanceMethod yX1_everybody, Cond.selects RX1 yX1_everybody yX1_everybody, Cond.initialized RX1, Cond.code yX1_everybody cX1_everybody 1 (some .int), Cond.fieldLink RX1 30 "SharedShadow$Land" "people" "I", Cond.methodLink RX7 322 yX5_tellsSetsOf, Cond.instanceMethod yX5_tellsSetsOf, Cond.selects RX5 yX5_tellsSetsOf yX5_tellsSetsOf, Cond.code yX5_tellsSetsOf cX5_tellsSetsOf 4 (some .boolean), Cond.fieldLink RX5 19 "SharedShadow$Sheet" "length" "I", Cond.fieldLink RX5 9 "SharedShadow$Sheet" "numbers" "[I", Cond.methodLink RX7 163 yX4_begin, Cond.instanceMethod yX4_begin]
def wsX7_fits_r3 : List Cond := [Cond.selects RX4 yX4_begin yX4_begin, Cond.initialized RX4, Cond.code yX4_begin cX4_begin 2 none, Cond.fieldLink RX4 12 "SharedShadow$Rest" "to" "LSharedShadow$Land;", Cond.fieldLink RX4 39 "SharedShadow$Land" "hour" "I", Cond.fieldLink RX4 22 "SharedShadow$Rest" "first" "I", Cond.fieldLink RX4 26 "SharedShadow$Rest" "left" "I", Cond.methodLink RX4 36 yX1_become, Cond.instanceMethod yX1_become, Cond.selects RX1 yX1_become yX1_become, Cond.code yX1_become cX1_become 2 none, Cond.fieldLink RX1 9 "SharedShadow$Land" "kind" "[I", Cond.methodLink RX1 50 arraycopyName, Cond.native arraycopyName, Cond.static arraycopyName, Cond.initialized "java/lang/System", Cond.fieldLink RX1 15 "SharedShadow$Land" "sun" "[I", Cond.fieldLink RX1 18 "SharedShadow$Land" "strength" "[I", Cond.fieldLink RX1 21 "SharedShadow$Land" "needs" "[I", Cond.fieldLink RX1 24 "SharedShadow$Land" "partner" "[I", Cond.fieldLink RX1 27 "SharedShadow$Land" "spots" "[I", Cond.fieldLink RX1 35 "SharedShadow$Land" "lit" "I", Cond.fieldLink RX1 38 "SharedShadow$Land" "hour" "I", Cond.fieldLink RX1 41 "SharedShadow$Land" "wereMet" "I"]
def wsX7_fits_r4 : List Cond := [Cond.fieldLink RX1 44 "SharedShadow$Land" "wereMissed" "I", Cond.fieldLink RX1 47 "SharedShadow$Land" "drawn" "I", Cond.methodLink RX4 42 yX1_hoursLeft, Cond.instanceMethod yX1_hoursLeft, Cond.selects RX1 yX1_hoursLeft yX1_hoursLeft, Cond.code yX1_hoursLeft cX1_hoursLeft 1 (some .int), Cond.constant RX1 34 (65535), Cond.methodLink RX7 128 yX1_separate, Cond.instanceMethod yX1_separate, Cond.selects RX1 yX1_separate yX1_separate, Cond.code yX1_separate cX1_separate 2 none, Cond.methodLink RX1 56 yX1_isPerson, Cond.instanceMethod yX1_isPerson, Cond.selects RX1 yX1_isPerson yX1_isPerson, Cond.code yX1_isPerson cX1_isPerson 2 (some .boolean), Cond.methodLink RX7 124 yX1_join, Cond.instanceMethod yX1_join, Cond.selects RX1 yX1_join yX1_join, Cond.code yX1_join cX1_join 3 none, Cond.methodLink RX1 64 yX1_areTwo, Cond.instanceMethod yX1_areTwo, Cond.selects RX1 yX1_areTwo yX1_areTwo, Cond.code yX1_areTwo cX1_areTwo 3 (some .boolean), Cond.methodLink RX1 68 yX1_separate]
def wsX7_fits_r5 : List Cond := [Cond.methodLink RX7 169 yX4_run, Cond.instanceMethod yX4_run, Cond.selects RX4 yX4_run yX4_run, Cond.code yX4_run cX4_run 2 none, Cond.fieldLink RX4 18 "SharedShadow$Rest" "have" "[I", Cond.methodLink RX4 46 yX1_havers, Cond.instanceMethod yX1_havers, Cond.selects RX1 yX1_havers yX1_havers, Cond.code yX1_havers cX1_havers 3 (some .int), Cond.static yX7_bit, Cond.code yX7_bit cX7_bit 2 (some .int), Cond.methodLink RX1 93 yX1_stronger, Cond.instanceMethod yX1_stronger, Cond.selects RX1 yX1_stronger yX1_stronger, Cond.code yX1_stronger cX1_stronger 6 (some .int), Cond.methodLink RX1 78 Lib.Math.min.name, Cond.static Lib.Math.min.name, Cond.initialized "java/lang/Math", Cond.code Lib.Math.min.name Lib.Math.min.code 2 (some .int), Cond.methodLink RX1 84 Lib.Math.max.name, Cond.static Lib.Math.max.name, Cond.code Lib.Math.max.name Lib.Math.max.code 2 (some .int), Cond.methodLink RX1 87 yX1_claimOf, Cond.instanceMethod yX1_claimOf]
def wsX7_fits_r6 : List Cond := [Cond.selects RX1 yX1_claimOf yX1_claimOf, Cond.code yX1_claimOf cX1_claimOf 5 (some .int), Cond.methodLink RX4 49 yX1_passHour, Cond.instanceMethod yX1_passHour, Cond.selects RX1 yX1_passHour yX1_passHour, Cond.code yX1_passHour cX1_passHour 5 none, Cond.methodLink RX1 104 yX1_tally, Cond.instanceMethod yX1_tally, Cond.selects RX1 yX1_tally yX1_tally, Cond.code yX1_tally cX1_tally 2 none, Cond.methodLink RX7 325 yX4_isShadeOf, Cond.instanceMethod yX4_isShadeOf, Cond.selects RX4 yX4_isShadeOf yX4_isShadeOf, Cond.code yX4_isShadeOf cX4_isShadeOf 4 (some .boolean), Cond.fieldLink RX4 88 "SharedShadow$Sheet" "length" "I", Cond.fieldLink RX4 93 "SharedShadow$Sheet" "numbers" "[I", Cond.methodLink RX7 315 yX2_value, Cond.instanceMethod yX2_value, Cond.selects RX2 yX2_value yX2_value, Cond.initialized RX2, Cond.code yX2_value cX2_value 4 none, Cond.fieldLink RX2 9 "SharedShadow$Pairings" "values" "[I", Cond.methodLink RX7 319 yX2_weigh, Cond.instanceMethod yX2_weigh]
def wsX7_fits_r7 : List Cond := [Cond.selects RX2 yX2_weigh yX2_weigh, Cond.code yX2_weigh cX2_weigh 3 none, Cond.fieldLink RX2 15 "SharedShadow$Pairings" "best" "[I", Cond.fieldLink RX2 18 "SharedShadow$Pairings" "number" "[I", Cond.methodLink RX2 34 yX2_weighSet, Cond.instanceMethod yX2_weighSet, Cond.selects RX2 yX2_weighSet yX2_weighSet, Cond.code yX2_weighSet cX2_weighSet 5 none, Cond.methodLink RX2 38 yX2_leastOf, Cond.static yX2_leastOf, Cond.code yX2_leastOf cX2_leastOf 2 (some .int), Cond.methodLink RX2 42 yX2_worthWith, Cond.instanceMethod yX2_worthWith, Cond.selects RX2 yX2_worthWith yX2_worthWith, Cond.code yX2_worthWith cX2_worthWith 5 (some .int), Cond.methodLink RX2 52 yJ6_bitCount_0f7a4, Cond.static yJ6_bitCount_0f7a4, Cond.initialized RJ6, Cond.code yJ6_bitCount_0f7a4 cJ6_bitCount_0f7a4 1 (some .int), Cond.constant RJ6 265 (1431655765), Cond.constant RJ6 266 (858993459), Cond.constant RJ6 267 (252645135), Cond.methodLink RX2 57 yX2_valueOf, Cond.instanceMethod yX2_valueOf]
def wsX7_fits_r8 : List Cond := [Cond.selects RX2 yX2_valueOf yX2_valueOf, Cond.code yX2_valueOf cX2_valueOf 3 (some .int), Cond.methodLink RX2 25 Lib.Math.min.name, Cond.methodLink RX2 31 Lib.Math.max.name, Cond.methodLink RX2 46 yX2_without, Cond.static yX2_without, Cond.code yX2_without cX2_without 3 (some .int), Cond.methodLink RX7 197 yX2_waysOf, Cond.instanceMethod yX2_waysOf, Cond.selects RX2 yX2_waysOf yX2_waysOf, Cond.code yX2_waysOf cX2_waysOf 2 (some .int)]
def wsX7_fits : List Cond := .code yX7_fits cX7_fits 3 (some .int) :: ((wsX7_fits_r1 ++ (wsX7_fits_r2 ++ (wsX7_fits_r3 ++ (wsX7_fits_r4 ++ (wsX7_fits_r5 ++ (wsX7_fits_r6 ++ (wsX7_fits_r7 ++ wsX7_fits_r8))))))) ++ wsX70 ++ wsX50 ++ wsX10 ++ wsX40 ++ wsX20)
def wsX7_may_r1 : List Cond := [Cond.fieldLink RX7 10 "SharedShadow" "land" "LSharedShadow$Land;", Cond.fieldLink RX7 54 "SharedShadow" "sheets" "[LSharedShadow$Sheet;", Cond.fieldLink RX7 36 "SharedShadow" "pairings" "LSharedShadow$Pairings;", Cond.methodLink RX7 206 yX7_lackOf, Cond.instanceMethod yX7_lackOf, Cond.selects RX7 yX7_lackOf yX7_lackOf, Cond.initialized RX7, Cond.code yX7_lackOf cX7_lackOf 2 (some .int), Cond.methodLink RX7 259 yX7_isSheet, Cond.static yX7_isSheet, Cond.code yX7_isSheet cX7_isSheet 1 (some .boolean), Cond.methodLink RX7 67 yX7_isWithin, Cond.static yX7_isWithin, Cond.code yX7_isWithin cX7_isWithin 2 (some .boolean), Cond.methodLink RX7 269 yX5_isMissing, Cond.instanceMethod yX5_isMissing, Cond.selects RX5 yX5_isMissing yX5_isMissing, Cond.initialized RX5, Cond.code yX5_isMissing cX5_isMissing 1 (some .boolean), Cond.fieldLink RX5 15 "SharedShadow$Sheet" "bits" "I", Cond.methodLink RX7 71 yX7_found, Cond.instanceMethod yX7_found, Cond.selects RX7 yX7_found yX7_found, Cond.code yX7_found cX7_found 2 (some .int)]
def wsX7_may_r2 : List Cond := [Cond.fieldLink RX7 58 "SharedShadow" "findings" "[I", Cond.constant RX7 306 (-1000001), Cond.methodLink RX7 82 yX1_isPerson, Cond.instanceMethod yX1_isPerson, Cond.selects RX1 yX1_isPerson yX1_isPerson, Cond.initialized RX1, Cond.code yX1_isPerson cX1_isPerson 2 (some .boolean), Cond.fieldLink RX1 30 "SharedShadow$Land" "people" "I", Cond.methodLink RX7 209 yX7_weighByShade, Cond.instanceMethod yX7_weighByShade, Cond.selects RX7 yX7_weighByShade yX7_weighByShade, Cond.code yX7_weighByShade cX7_weighByShade 4 (some .boolean), Cond.fieldLink RX7 101 "SharedShadow$Land" "hour" "I", Cond.fieldLink RX7 200 "SharedShadow$Land" "people" "I", Cond.fieldLink RX7 22 "SharedShadow" "rest" "LSharedShadow$Rest;", Cond.fieldLink RX7 166 "SharedShadow$Rest" "to" "LSharedShadow$Land;", Cond.methodLink RX7 188 yX1_everybody, Cond.instanceMethod yX1_everybody, Cond.selects RX1 yX1_everybody yX1_everybody, Cond.code yX1_everybody cX1_everybody 1 (some .int), Cond.methodLink RX7 322 yX5_tellsSetsOf, Cond.instanceMethod yX5_tellsSetsOf, Cond.selects RX5 yX5_tellsSetsOf yX5_tellsSetsOf, Cond.code yX5_tellsSetsOf cX5_tellsSetsOf 4 (some .boolean)]
def wsX7_may_r3 : List Cond := [Cond.fieldLink RX5 19 "SharedShadow$Sheet" "length" "I", Cond.fieldLink RX5 9 "SharedShadow$Sheet" "numbers" "[I", Cond.methodLink RX7 163 yX4_begin, Cond.instanceMethod yX4_begin, Cond.selects RX4 yX4_begin yX4_begin, Cond.initialized RX4, Cond.code yX4_begin cX4_begin 2 none, Cond.fieldLink RX4 12 "SharedShadow$Rest" "to" "LSharedShadow$Land;", Cond.fieldLink RX4 39 "SharedShadow$Land" "hour" "I", Cond.fieldLink RX4 22 "SharedShadow$Rest" "first" "I", Cond.fieldLink RX4 26 "SharedShadow$Rest" "left" "I", Cond.methodLink RX4 36 yX1_become, Cond.instanceMethod yX1_become, Cond.selects RX1 yX1_become yX1_become, Cond.code yX1_become cX1_become 2 none, Cond.fieldLink RX1 9 "SharedShadow$Land" "kind" "[I", Cond.methodLink RX1 50 arraycopyName, Cond.native arraycopyName, Cond.static arraycopyName, Cond.initialized "java/lang/System", Cond.fieldLink RX1 15 "SharedShadow$Land" "sun" "[I", Cond.fieldLink RX1 18 "SharedShadow$Land" "strength" "[I", Cond.fieldLink RX1 21 "SharedShadow$Land" "needs" "[I", Cond.fieldLink RX1 24 "SharedShadow$Land" "partner" "[I"]
def wsX7_may_r4 : List Cond := [Cond.fieldLink RX1 27 "SharedShadow$Land" "spots" "[I", Cond.fieldLink RX1 35 "SharedShadow$Land" "lit" "I", Cond.fieldLink RX1 38 "SharedShadow$Land" "hour" "I", Cond.fieldLink RX1 41 "SharedShadow$Land" "wereMet" "I", Cond.fieldLink RX1 44 "SharedShadow$Land" "wereMissed" "I", Cond.fieldLink RX1 47 "SharedShadow$Land" "drawn" "I", Cond.methodLink RX4 42 yX1_hoursLeft, Cond.instanceMethod yX1_hoursLeft, Cond.selects RX1 yX1_hoursLeft yX1_hoursLeft, Cond.code yX1_hoursLeft cX1_hoursLeft 1 (some .int), Cond.constant RX1 34 (65535), Cond.methodLink RX7 128 yX1_separate, Cond.instanceMethod yX1_separate, Cond.selects RX1 yX1_separate yX1_separate, Cond.code yX1_separate cX1_separate 2 none, Cond.methodLink RX1 56 yX1_isPerson, Cond.methodLink RX7 124 yX1_join, Cond.instanceMethod yX1_join, Cond.selects RX1 yX1_join yX1_join, Cond.code yX1_join cX1_join 3 none, Cond.methodLink RX1 64 yX1_areTwo, Cond.instanceMethod yX1_areTwo, Cond.selects RX1 yX1_areTwo yX1_areTwo, Cond.code yX1_areTwo cX1_areTwo 3 (some .boolean)]
def wsX7_may_r5 : List Cond := [Cond.methodLink RX1 68 yX1_separate, Cond.methodLink RX7 169 yX4_run, Cond.instanceMethod yX4_run, Cond.selects RX4 yX4_run yX4_run, Cond.code yX4_run cX4_run 2 none, Cond.fieldLink RX4 18 "SharedShadow$Rest" "have" "[I", Cond.methodLink RX4 46 yX1_havers, Cond.instanceMethod yX1_havers, Cond.selects RX1 yX1_havers yX1_havers, Cond.code yX1_havers cX1_havers 3 (some .int), Cond.static yX7_bit, Cond.code yX7_bit cX7_bit 2 (some .int), Cond.methodLink RX1 93 yX1_stronger, Cond.instanceMethod yX1_stronger, Cond.selects RX1 yX1_stronger yX1_stronger, Cond.code yX1_stronger cX1_stronger 6 (some .int), Cond.methodLink RX1 78 Lib.Math.min.name, Cond.static Lib.Math.min.name, Cond.initialized "java/lang/Math", Cond.code Lib.Math.min.name Lib.Math.min.code 2 (some .int), Cond.methodLink RX1 84 Lib.Math.max.name, Cond.static Lib.Math.max.name, Cond.code Lib.Math.max.name Lib.Math.max.code 2 (some .int), Cond.methodLink RX1 87 yX1_claimOf]
def wsX7_may_r6 : List Cond := [Cond.instanceMethod yX1_claimOf, Cond.selects RX1 yX1_claimOf yX1_claimOf, Cond.code yX1_claimOf cX1_claimOf 5 (some .int), Cond.methodLink RX4 49 yX1_passHour, Cond.instanceMethod yX1_passHour, Cond.selects RX1 yX1_passHour yX1_passHour, Cond.code yX1_passHour cX1_passHour 5 none, Cond.methodLink RX1 104 yX1_tally, Cond.instanceMethod yX1_tally, Cond.selects RX1 yX1_tally yX1_tally, Cond.code yX1_tally cX1_tally 2 none, Cond.methodLink RX7 325 yX4_isShadeOf, Cond.instanceMethod yX4_isShadeOf, Cond.selects RX4 yX4_isShadeOf yX4_isShadeOf, Cond.code yX4_isShadeOf cX4_isShadeOf 4 (some .boolean), Cond.fieldLink RX4 88 "SharedShadow$Sheet" "length" "I", Cond.fieldLink RX4 93 "SharedShadow$Sheet" "numbers" "[I", Cond.methodLink RX7 315 yX2_value, Cond.instanceMethod yX2_value, Cond.selects RX2 yX2_value yX2_value, Cond.initialized RX2, Cond.code yX2_value cX2_value 4 none, Cond.fieldLink RX2 9 "SharedShadow$Pairings" "values" "[I", Cond.methodLink RX7 319 yX2_weigh]
def wsX7_may_r7 : List Cond := [Cond.instanceMethod yX2_weigh, Cond.selects RX2 yX2_weigh yX2_weigh, Cond.code yX2_weigh cX2_weigh 3 none, Cond.fieldLink RX2 15 "SharedShadow$Pairings" "best" "[I", Cond.fieldLink RX2 18 "SharedShadow$Pairings" "number" "[I", Cond.methodLink RX2 34 yX2_weighSet, Cond.instanceMethod yX2_weighSet, Cond.selects RX2 yX2_weighSet yX2_weighSet, Cond.code yX2_weighSet cX2_weighSet 5 none, Cond.methodLink RX2 38 yX2_leastOf, Cond.static yX2_leastOf, Cond.code yX2_leastOf cX2_leastOf 2 (some .int), Cond.methodLink RX2 42 yX2_worthWith, Cond.instanceMethod yX2_worthWith, Cond.selects RX2 yX2_worthWith yX2_worthWith, Cond.code yX2_worthWith cX2_worthWith 5 (some .int), Cond.methodLink RX2 52 yJ6_bitCount_0f7a4, Cond.static yJ6_bitCount_0f7a4, Cond.initialized RJ6, Cond.code yJ6_bitCount_0f7a4 cJ6_bitCount_0f7a4 1 (some .int), Cond.constant RJ6 265 (1431655765), Cond.constant RJ6 266 (858993459), Cond.constant RJ6 267 (252645135), Cond.methodLink RX2 57 yX2_valueOf]
def wsX7_may_r8 : List Cond := [Cond.instanceMethod yX2_valueOf, Cond.selects RX2 yX2_valueOf yX2_valueOf, Cond.code yX2_valueOf cX2_valueOf 3 (some .int), Cond.methodLink RX2 25 Lib.Math.min.name, Cond.methodLink RX2 31 Lib.Math.max.name, Cond.methodLink RX2 46 yX2_without, Cond.static yX2_without, Cond.code yX2_without cX2_without 3 (some .int), Cond.methodLink RX7 213 yX2_matesOf, Cond.instanceMethod yX2_matesOf, Cond.selects RX2 yX2_matesOf yX2_matesOf, Cond.code yX2_matesOf cX2_matesOf 6 (some .int)]
def wsX7_may : List Cond := .code yX7_may cX7_may 4 (some .int) :: ((wsX7_may_r1 ++ (wsX7_may_r2 ++ (wsX7_may_r3 ++ (wsX7_may_r4 ++ (wsX7_may_r5 ++ (wsX7_may_r6 ++ (wsX7_may_r7 ++ wsX7_may_r8))))))) ++ wsX70 ++ wsX50 ++ wsX10 ++ wsX40 ++ wsX20)
def wsX7_duelForce_r1 : List Cond := [Cond.fieldLink RX7 10 "SharedShadow" "land" "LSharedShadow$Land;", Cond.fieldLink RX7 132 "SharedShadow$Land" "lit" "I", Cond.fieldLink RX7 92 "SharedShadow$Land" "strength" "[I", Cond.methodLink RX7 113 yX7_bit, Cond.static yX7_bit, Cond.initialized RX7, Cond.code yX7_bit cX7_bit 2 (some .int), Cond.methodLink RX7 332 yX1_stronger, Cond.instanceMethod yX1_stronger, Cond.selects RX1 yX1_stronger yX1_stronger, Cond.initialized RX1, Cond.code yX1_stronger cX1_stronger 6 (some .int), Cond.methodLink RX1 78 Lib.Math.min.name, Cond.static Lib.Math.min.name, Cond.initialized "java/lang/Math", Cond.code Lib.Math.min.name Lib.Math.min.code 2 (some .int), Cond.methodLink RX1 84 Lib.Math.max.name, Cond.static Lib.Math.max.name, Cond.code Lib.Math.max.name Lib.Math.max.code 2 (some .int), Cond.methodLink RX1 87 yX1_claimOf, Cond.instanceMethod yX1_claimOf, Cond.selects RX1 yX1_claimOf yX1_claimOf, Cond.code yX1_claimOf cX1_claimOf 5 (some .int), Cond.fieldLink RX1 30 "SharedShadow$Land" "people" "I"]
def wsX7_duelForce_r2 : List Cond := [Cond.fieldLink RX1 15 "SharedShadow$Land" "sun" "[I", Cond.fieldLink RX1 9 "SharedShadow$Land" "kind" "[I", Cond.fieldLink RX1 18 "SharedShadow$Land" "strength" "[I"]
def wsX7_duelForce : List Cond := .code yX7_duelForce cX7_duelForce 4 (some .int) :: ((wsX7_duelForce_r1 ++ wsX7_duelForce_r2) ++ wsX70 ++ wsX10)
def wsX7_duel_r1 : List Cond := [Cond.fieldLink RX7 10 "SharedShadow" "land" "LSharedShadow$Land;", Cond.methodLink RX7 216 Lib.Math.min.name, Cond.static Lib.Math.min.name, Cond.initialized "java/lang/Math", Cond.code Lib.Math.min.name Lib.Math.min.code 2 (some .int), Cond.methodLink RX7 221 Lib.Math.max.name, Cond.static Lib.Math.max.name, Cond.code Lib.Math.max.name Lib.Math.max.code 2 (some .int), Cond.methodLink RX7 121 yX1_areTwo, Cond.instanceMethod yX1_areTwo, Cond.selects RX1 yX1_areTwo yX1_areTwo, Cond.initialized RX1, Cond.code yX1_areTwo cX1_areTwo 3 (some .boolean), Cond.methodLink RX1 56 yX1_isPerson, Cond.instanceMethod yX1_isPerson, Cond.selects RX1 yX1_isPerson yX1_isPerson, Cond.code yX1_isPerson cX1_isPerson 2 (some .boolean), Cond.fieldLink RX1 30 "SharedShadow$Land" "people" "I", Cond.methodLink RX7 71 yX7_found, Cond.instanceMethod yX7_found, Cond.selects RX7 yX7_found yX7_found, Cond.initialized RX7, Cond.code yX7_found cX7_found 2 (some .int), Cond.fieldLink RX7 58 "SharedShadow" "findings" "[I"]
def wsX7_duel_r2 : List Cond := [Cond.constant RX7 306 (-1000001), Cond.methodLink RX7 224 yX7_duelForce, Cond.instanceMethod yX7_duelForce, Cond.selects RX7 yX7_duelForce yX7_duelForce, Cond.code yX7_duelForce cX7_duelForce 4 (some .int), Cond.fieldLink RX7 132 "SharedShadow$Land" "lit" "I", Cond.fieldLink RX7 92 "SharedShadow$Land" "strength" "[I", Cond.methodLink RX7 113 yX7_bit, Cond.static yX7_bit, Cond.code yX7_bit cX7_bit 2 (some .int), Cond.methodLink RX7 332 yX1_stronger, Cond.instanceMethod yX1_stronger, Cond.selects RX1 yX1_stronger yX1_stronger, Cond.code yX1_stronger cX1_stronger 6 (some .int), Cond.methodLink RX1 78 Lib.Math.min.name, Cond.methodLink RX1 84 Lib.Math.max.name, Cond.methodLink RX1 87 yX1_claimOf, Cond.instanceMethod yX1_claimOf, Cond.selects RX1 yX1_claimOf yX1_claimOf, Cond.code yX1_claimOf cX1_claimOf 5 (some .int), Cond.fieldLink RX1 15 "SharedShadow$Land" "sun" "[I", Cond.fieldLink RX1 9 "SharedShadow$Land" "kind" "[I", Cond.fieldLink RX1 18 "SharedShadow$Land" "strength" "[I"]
def wsX7_duel : List Cond := .code yX7_duel cX7_duel 5 (some .int) :: ((wsX7_duel_r1 ++ wsX7_duel_r2) ++ wsX70 ++ wsX10)
def wsX7_commonDivisor : List Cond := .code yX7_commonDivisor cX7_commonDivisor 3 (some .int) :: ([.methodLink RX7 221 Lib.Math.max.name, .static Lib.Math.max.name, .initialized "java/lang/Math", .code Lib.Math.max.name Lib.Math.max.code 2 (some .int)])
def wsX7_power : List Cond := .code yX7_power cX7_power 5 (some .long) :: ([])
def wsX7_lanterns : List Cond := .code yX7_lanterns cX7_lanterns 6 (some .long) :: ([.methodLink RX7 67 yX7_isWithin, .static yX7_isWithin, .initialized RX7, .code yX7_isWithin cX7_isWithin 2 (some .boolean), .methodLink RX7 71 yX7_found, .instanceMethod yX7_found, .selects RX7 yX7_found yX7_found, .code yX7_found cX7_found 2 (some .int), .fieldLink RX7 58 "SharedShadow" "findings" "[I", .constant RX7 306 (-1000001), .methodLink RX7 227 yX7_commonDivisor, .static yX7_commonDivisor, .code yX7_commonDivisor cX7_commonDivisor 3 (some .int), .methodLink RX7 221 Lib.Math.max.name, .static Lib.Math.max.name, .initialized "java/lang/Math", .code Lib.Math.max.name Lib.Math.max.code 2 (some .int), .methodLink RX7 230 yX7_power, .static yX7_power, .code yX7_power cX7_power 5 (some .long)] ++ wsX70)
def wsX7_days_r1 : List Cond := [Cond.fieldLink RX7 10 "SharedShadow" "land" "LSharedShadow$Land;", Cond.fieldLink RX7 138 "SharedShadow$Land" "wereMet" "I", Cond.constant RX7 234 (90000), Cond.fieldLink RX7 141 "SharedShadow$Land" "wereMissed" "I", Cond.constant RX7 120 (65535), Cond.fieldLink RX7 132 "SharedShadow$Land" "lit" "I", Cond.fieldLink RX7 101 "SharedShadow$Land" "hour" "I", Cond.methodLink RX7 71 yX7_found, Cond.instanceMethod yX7_found, Cond.selects RX7 yX7_found yX7_found, Cond.initialized RX7, Cond.code yX7_found cX7_found 2 (some .int), Cond.fieldLink RX7 58 "SharedShadow" "findings" "[I", Cond.constant RX7 306 (-1000001), Cond.methodLink RX7 235 yX1_draw, Cond.instanceMethod yX1_draw, Cond.selects RX1 yX1_draw yX1_draw, Cond.initialized RX1, Cond.code yX1_draw cX1_draw 1 (some .int), Cond.fieldLink RX1 47 "SharedShadow$Land" "drawn" "I", Cond.constant RX1 108 (1103515245), Cond.methodLink RX7 135 yX1_passHours, Cond.instanceMethod yX1_passHours, Cond.selects RX1 yX1_passHours yX1_passHours]
def wsX7_days_r2 : List Cond := [Cond.code yX1_passHours cX1_passHours 3 none, Cond.fieldLink RX1 38 "SharedShadow$Land" "hour" "I", Cond.methodLink RX1 97 yX1_havers, Cond.instanceMethod yX1_havers, Cond.selects RX1 yX1_havers yX1_havers, Cond.code yX1_havers cX1_havers 3 (some .int), Cond.fieldLink RX1 35 "SharedShadow$Land" "lit" "I", Cond.fieldLink RX1 30 "SharedShadow$Land" "people" "I", Cond.fieldLink RX1 24 "SharedShadow$Land" "partner" "[I", Cond.static yX7_bit, Cond.code yX7_bit cX7_bit 2 (some .int), Cond.methodLink RX1 93 yX1_stronger, Cond.instanceMethod yX1_stronger, Cond.selects RX1 yX1_stronger yX1_stronger, Cond.code yX1_stronger cX1_stronger 6 (some .int), Cond.methodLink RX1 78 Lib.Math.min.name, Cond.static Lib.Math.min.name, Cond.initialized "java/lang/Math", Cond.code Lib.Math.min.name Lib.Math.min.code 2 (some .int), Cond.methodLink RX1 84 Lib.Math.max.name, Cond.static Lib.Math.max.name, Cond.code Lib.Math.max.name Lib.Math.max.code 2 (some .int), Cond.methodLink RX1 87 yX1_claimOf, Cond.instanceMethod yX1_claimOf]
def wsX7_days_r3 : List Cond := [Cond.selects RX1 yX1_claimOf yX1_claimOf, Cond.code yX1_claimOf cX1_claimOf 5 (some .int), Cond.fieldLink RX1 15 "SharedShadow$Land" "sun" "[I", Cond.fieldLink RX1 9 "SharedShadow$Land" "kind" "[I", Cond.fieldLink RX1 18 "SharedShadow$Land" "strength" "[I", Cond.methodLink RX1 101 yX1_passHour, Cond.instanceMethod yX1_passHour, Cond.selects RX1 yX1_passHour yX1_passHour, Cond.code yX1_passHour cX1_passHour 5 none, Cond.fieldLink RX1 21 "SharedShadow$Land" "needs" "[I", Cond.methodLink RX1 104 yX1_tally, Cond.instanceMethod yX1_tally, Cond.selects RX1 yX1_tally yX1_tally, Cond.code yX1_tally cX1_tally 2 none, Cond.fieldLink RX1 41 "SharedShadow$Land" "wereMet" "I", Cond.fieldLink RX1 44 "SharedShadow$Land" "wereMissed" "I"]
def wsX7_days : List Cond := .code yX7_days cX7_days 3 (some .int) :: ((wsX7_days_r1 ++ (wsX7_days_r2 ++ wsX7_days_r3)) ++ wsX70 ++ wsX10)
def wsX7_seed : List Cond := .code yX7_seed cX7_seed 3 (some .int) :: ([.fieldLink RX7 10 "SharedShadow" "land" "LSharedShadow$Land;", .fieldLink RX7 238 "SharedShadow$Land" "drawn" "I"] ++ wsX70 ++ wsX10)
def wsX7_feed : List Cond := .code yX7_feed cX7_feed 4 (some .int) :: ([.fieldLink RX7 51 "SharedShadow" "tape" "LSharedShadow$Tape;", .fieldLink RX7 243 "SharedShadow$Tape" "length" "I", .methodLink RX7 71 yX7_found, .instanceMethod yX7_found, .selects RX7 yX7_found yX7_found, .initialized RX7, .code yX7_found cX7_found 2 (some .int), .fieldLink RX7 58 "SharedShadow" "findings" "[I", .constant RX7 306 (-1000001), .methodLink RX7 246 yX6_append, .instanceMethod yX6_append, .selects RX6 yX6_append yX6_append, .initialized RX6, .code yX6_append cX6_append 2 none, .fieldLink RX6 13 "SharedShadow$Tape" "length" "I", .fieldLink RX6 9 "SharedShadow$Tape" "bytes" "[I"] ++ wsX70 ++ wsX60)
def wsX7_wipe : List Cond := .code yX7_wipe cX7_wipe 2 (some .int) :: ([.fieldLink RX7 51 "SharedShadow" "tape" "LSharedShadow$Tape;", .fieldLink RX7 243 "SharedShadow$Tape" "length" "I"] ++ wsX70 ++ wsX60)
def wsX7_text_r1 : List Cond := [Cond.fieldLink RX7 43 "SharedShadow" "reader" "LSharedShadow$Reader;", Cond.fieldLink RX7 10 "SharedShadow" "land" "LSharedShadow$Land;", Cond.fieldLink RX7 51 "SharedShadow" "tape" "LSharedShadow$Tape;", Cond.fieldLink RX7 243 "SharedShadow$Tape" "length" "I", Cond.methodLink RX7 249 yX3_read, Cond.instanceMethod yX3_read, Cond.selects RX3 yX3_read yX3_read, Cond.initialized RX3, Cond.code yX3_read cX3_read 3 (some .int), Cond.fieldLink RX3 21 "SharedShadow$Reader" "draft" "LSharedShadow$Land;", Cond.fieldLink RX3 29 "SharedShadow$Reader" "places" "[I", Cond.fieldLink RX3 42 "SharedShadow$Reader" "next" "I", Cond.methodLink RX3 45 yX3_split, Cond.instanceMethod yX3_split, Cond.selects RX3 yX3_split yX3_split, Cond.code yX3_split cX3_split 4 none, Cond.fieldLink RX3 38 "SharedShadow$Reader" "tokens" "I", Cond.fieldLink RX3 12 "SharedShadow$Reader" "tape" "LSharedShadow$Tape;", Cond.fieldLink RX3 63 "SharedShadow$Tape" "length" "I", Cond.methodLink RX3 66 yX6_byteAt, Cond.instanceMethod yX6_byteAt, Cond.selects RX6 yX6_byteAt yX6_byteAt, Cond.initialized RX6, Cond.code yX6_byteAt cX6_byteAt 2 (some .int)]
def wsX7_text_r2 : List Cond := [Cond.fieldLink RX6 13 "SharedShadow$Tape" "length" "I", Cond.fieldLink RX6 9 "SharedShadow$Tape" "bytes" "[I", Cond.methodLink RX3 70 yX3_typeOf, Cond.static yX3_typeOf, Cond.code yX3_typeOf cX3_typeOf 1 (some .int), Cond.methodLink RX3 73 yX3_beginToken, Cond.instanceMethod yX3_beginToken, Cond.selects RX3 yX3_beginToken yX3_beginToken, Cond.code yX3_beginToken cX3_beginToken 3 none, Cond.fieldLink RX3 25 "SharedShadow$Reader" "types" "[I", Cond.fieldLink RX3 35 "SharedShadow$Reader" "values" "[I", Cond.methodLink RX3 77 yX3_lengthenToken, Cond.instanceMethod yX3_lengthenToken, Cond.selects RX3 yX3_lengthenToken yX3_lengthenToken, Cond.code yX3_lengthenToken cX3_lengthenToken 3 none, Cond.fieldLink RX3 32 "SharedShadow$Reader" "ends" "[I", Cond.constant RX3 81 (100000), Cond.methodLink RX3 82 Lib.Math.min.name, Cond.static Lib.Math.min.name, Cond.initialized "java/lang/Math", Cond.code Lib.Math.min.name Lib.Math.min.code 2 (some .int), Cond.methodLink RX3 48 yX1_become, Cond.instanceMethod yX1_become, Cond.selects RX1 yX1_become yX1_become]
def wsX7_text_r3 : List Cond := [Cond.initialized RX1, Cond.code yX1_become cX1_become 2 none, Cond.fieldLink RX1 9 "SharedShadow$Land" "kind" "[I", Cond.methodLink RX1 50 arraycopyName, Cond.native arraycopyName, Cond.static arraycopyName, Cond.initialized "java/lang/System", Cond.fieldLink RX1 15 "SharedShadow$Land" "sun" "[I", Cond.fieldLink RX1 18 "SharedShadow$Land" "strength" "[I", Cond.fieldLink RX1 21 "SharedShadow$Land" "needs" "[I", Cond.fieldLink RX1 24 "SharedShadow$Land" "partner" "[I", Cond.fieldLink RX1 27 "SharedShadow$Land" "spots" "[I", Cond.fieldLink RX1 30 "SharedShadow$Land" "people" "I", Cond.fieldLink RX1 35 "SharedShadow$Land" "lit" "I", Cond.fieldLink RX1 38 "SharedShadow$Land" "hour" "I", Cond.fieldLink RX1 41 "SharedShadow$Land" "wereMet" "I", Cond.fieldLink RX1 44 "SharedShadow$Land" "wereMissed" "I", Cond.fieldLink RX1 47 "SharedShadow$Land" "drawn" "I", Cond.methodLink RX3 52 yX3_readItem, Cond.instanceMethod yX3_readItem, Cond.selects RX3 yX3_readItem yX3_readItem, Cond.code yX3_readItem cX3_readItem 1 (some .boolean), Cond.methodLink RX3 88 yX3_kindOfWord, Cond.instanceMethod yX3_kindOfWord]
def wsX7_text_r4 : List Cond := [Cond.selects RX3 yX3_kindOfWord yX3_kindOfWord, Cond.code yX3_kindOfWord cX3_kindOfWord 1 (some .int), Cond.methodLink RX3 97 yX3_isWord, Cond.instanceMethod yX3_isWord, Cond.selects RX3 yX3_isWord yX3_isWord, Cond.code yX3_isWord cX3_isWord 3 (some .boolean), Cond.methodLink RX3 56 yX3_isNext, Cond.instanceMethod yX3_isNext, Cond.selects RX3 yX3_isNext yX3_isNext, Cond.code yX3_isNext cX3_isNext 2 (some .boolean), Cond.methodLink RX3 155 yJ0_length_8abf5, Cond.instanceMethod yJ0_length_8abf5, Cond.selects RJ0 yJ0_length_8abf5 yJ0_length_8abf5, Cond.initialized RJ0, Cond.code yJ0_length_8abf5 cJ0_length_8abf5 1 (some .int), Cond.fieldLink RJ0 9 "java/lang/String" "value" "[B", Cond.methodLink RJ0 335 yJ0_coder_7d493, Cond.instanceMethod yJ0_coder_7d493, Cond.selects RJ0 yJ0_coder_7d493 yJ0_coder_7d493, Cond.code yJ0_coder_7d493 cJ0_coder_7d493 1 (some .byte), Cond.fieldLink RJ0 38 "java/lang/String" "COMPACT_STRINGS" "Z", Cond.fieldLink RJ0 15 "java/lang/String" "coder" "B", Cond.methodLink RX3 159 yJ0_charAt_5068e, Cond.instanceMethod yJ0_charAt_5068e]
def wsX7_text_r5 : List Cond := [Cond.selects RJ0 yJ0_charAt_5068e yJ0_charAt_5068e, Cond.code yJ0_charAt_5068e cJ0_charAt_5068e 2 (some .char), Cond.methodLink RJ0 492 yJ0_isLatin1_aae02, Cond.instanceMethod yJ0_isLatin1_aae02, Cond.selects RJ0 yJ0_isLatin1_aae02 yJ0_isLatin1_aae02, Cond.code yJ0_isLatin1_aae02 cJ0_isLatin1_aae02 1 (some .boolean), Cond.methodLink RJ0 495 yJ1_charAt_3b067, Cond.static yJ1_charAt_3b067, Cond.initialized RJ1, Cond.code yJ1_charAt_3b067 cJ1_charAt_3b067 2 (some .char), Cond.methodLink RJ1 9 yJ0_checkIndex_df160, Cond.static yJ0_checkIndex_df160, Cond.code yJ0_checkIndex_df160 cJ0_checkIndex_df160 2 none, Cond.fieldLink RJ0 1053 "jdk/internal/util/Preconditions" "SIOOBE_FORMATTER" "Ljava/util/function/BiFunction;", Cond.methodLink RJ0 1059 yJ3_checkIndex_8e157, Cond.static yJ3_checkIndex_8e157, Cond.initialized RJ3, Cond.code yJ3_checkIndex_8e157 cJ3_checkIndex_8e157 3 (some .int), Cond.methodLink RJ0 498 yJ2_charAt_3b067, Cond.static yJ2_charAt_3b067, Cond.initialized RJ2, Cond.code yJ2_charAt_3b067 cJ2_charAt_3b067 2 (some .char), Cond.methodLink RJ2 67 yJ2_checkIndex_2214a, Cond.static yJ2_checkIndex_2214a]
def wsX7_text_r6 : List Cond := [Cond.code yJ2_checkIndex_2214a cJ2_checkIndex_2214a 2 none, Cond.methodLink RJ2 48 yJ2_length_9d52b, Cond.static yJ2_length_9d52b, Cond.code yJ2_length_9d52b cJ2_length_9d52b 1 (some .int), Cond.methodLink RJ2 414 yJ0_checkIndex_df160, Cond.methodLink RJ2 71 yJ2_getChar_3b067, Cond.static yJ2_getChar_3b067, Cond.code yJ2_getChar_3b067 cJ2_getChar_3b067 2 (some .char), Cond.fieldLink RJ2 44 "java/lang/StringUTF16" "$assertionsDisabled" "Z", Cond.fieldLink RJ2 59 "java/lang/StringUTF16" "HI_BYTE_SHIFT" "I", Cond.fieldLink RJ2 63 "java/lang/StringUTF16" "LO_BYTE_SHIFT" "I", Cond.methodLink RX3 92 yX3_readPerson, Cond.instanceMethod yX3_readPerson, Cond.selects RX3 yX3_readPerson yX3_readPerson, Cond.code yX3_readPerson cX3_readPerson 2 (some .boolean), Cond.fieldLink RX3 131 "SharedShadow$Land" "sun" "[I", Cond.fieldLink RX3 139 "SharedShadow$Land" "strength" "[I", Cond.fieldLink RX3 143 "SharedShadow$Land" "needs" "[I", Cond.constant RX3 114 (65535), Cond.methodLink RX3 123 yX1_isFull, Cond.instanceMethod yX1_isFull, Cond.selects RX1 yX1_isFull yX1_isFull, Cond.code yX1_isFull cX1_isFull 1 (some .boolean), Cond.methodLink RX3 126 yX1_add]
def wsX7_text_r7 : List Cond := [Cond.instanceMethod yX1_add, Cond.selects RX1 yX1_add yX1_add, Cond.code yX1_add cX1_add 2 (some .int), Cond.methodLink RX1 60 yX1_isFull, Cond.methodLink RX3 60 yX3_step, Cond.instanceMethod yX3_step, Cond.selects RX3 yX3_step yX3_step, Cond.code yX3_step cX3_step 1 none, Cond.methodLink RX3 133 yX3_readTrait, Cond.instanceMethod yX3_readTrait, Cond.selects RX3 yX3_readTrait yX3_readTrait, Cond.code yX3_readTrait cX3_readTrait 6 (some .boolean), Cond.methodLink RX3 115 yX3_takeNumber, Cond.instanceMethod yX3_takeNumber, Cond.selects RX3 yX3_takeNumber yX3_takeNumber, Cond.code yX3_takeNumber cX3_takeNumber 2 (some .boolean), Cond.static yX7_isWithin, Cond.initialized RX7, Cond.code yX7_isWithin cX7_isWithin 2 (some .boolean), Cond.methodLink RX3 101 yX3_readShare, Cond.instanceMethod yX3_readShare, Cond.selects RX3 yX3_readShare yX3_readShare, Cond.code yX3_readShare cX3_readShare 3 (some .boolean), Cond.fieldLink RX3 149 "SharedShadow$Land" "people" "I"]
def wsX7_text_r8 : List Cond := [Cond.methodLink RX3 152 yX1_join, Cond.instanceMethod yX1_join, Cond.selects RX1 yX1_join yX1_join, Cond.code yX1_join cX1_join 3 none, Cond.methodLink RX1 64 yX1_areTwo, Cond.instanceMethod yX1_areTwo, Cond.selects RX1 yX1_areTwo yX1_areTwo, Cond.code yX1_areTwo cX1_areTwo 3 (some .boolean), Cond.methodLink RX1 56 yX1_isPerson, Cond.instanceMethod yX1_isPerson, Cond.selects RX1 yX1_isPerson yX1_isPerson, Cond.code yX1_isPerson cX1_isPerson 2 (some .boolean), Cond.methodLink RX1 68 yX1_separate, Cond.instanceMethod yX1_separate, Cond.selects RX1 yX1_separate yX1_separate, Cond.code yX1_separate cX1_separate 2 none, Cond.methodLink RX3 106 yX3_readLight, Cond.instanceMethod yX3_readLight, Cond.selects RX3 yX3_readLight yX3_readLight, Cond.code yX3_readLight cX3_readLight 2 (some .boolean), Cond.fieldLink RX3 118 "SharedShadow$Land" "lit" "I", Cond.methodLink RX3 111 yX3_readHour, Cond.instanceMethod yX3_readHour, Cond.selects RX3 yX3_readHour yX3_readHour]
def wsX7_text_r9 : List Cond := [Cond.code yX3_readHour cX3_readHour 2 (some .boolean), Cond.fieldLink RX3 121 "SharedShadow$Land" "hour" "I"]
def wsX7_text : List Cond := .code yX7_text cX7_text 2 (some .int) :: ((wsX7_text_r1 ++ (wsX7_text_r2 ++ (wsX7_text_r3 ++ (wsX7_text_r4 ++ (wsX7_text_r5 ++ (wsX7_text_r6 ++ (wsX7_text_r7 ++ (wsX7_text_r8 ++ wsX7_text_r9)))))))) ++ wsX70 ++ wsX60 ++ wsX30 ++ wsX10)
def wsX7_hold : List Cond := .code yX7_hold cX7_hold 3 (some .int) :: ([.fieldLink RX7 10 "SharedShadow" "land" "LSharedShadow$Land;", .fieldLink RX7 253 "SharedShadow$Land" "spots" "[I", .methodLink RX7 67 yX7_isWithin, .static yX7_isWithin, .initialized RX7, .code yX7_isWithin cX7_isWithin 2 (some .boolean), .methodLink RX7 82 yX1_isPerson, .instanceMethod yX1_isPerson, .selects RX1 yX1_isPerson yX1_isPerson, .initialized RX1, .code yX1_isPerson cX1_isPerson 2 (some .boolean), .fieldLink RX1 30 "SharedShadow$Land" "people" "I", .methodLink RX7 71 yX7_found, .instanceMethod yX7_found, .selects RX7 yX7_found yX7_found, .code yX7_found cX7_found 2 (some .int), .fieldLink RX7 58 "SharedShadow" "findings" "[I", .constant RX7 306 (-1000001)] ++ wsX70 ++ wsX10)
def wsX7_as : List Cond := .code yX7_as cX7_as 4 (some .int) :: ([.fieldLink RX7 10 "SharedShadow" "land" "LSharedShadow$Land;", .fieldLink RX7 253 "SharedShadow$Land" "spots" "[I", .methodLink RX7 67 yX7_isWithin, .static yX7_isWithin, .initialized RX7, .code yX7_isWithin cX7_isWithin 2 (some .boolean), .methodLink RX7 71 yX7_found, .instanceMethod yX7_found, .selects RX7 yX7_found yX7_found, .code yX7_found cX7_found 2 (some .int), .fieldLink RX7 58 "SharedShadow" "findings" "[I", .constant RX7 306 (-1000001), .methodLink RX7 256 yX1_isOfKind, .instanceMethod yX1_isOfKind, .selects RX1 yX1_isOfKind yX1_isOfKind, .initialized RX1, .code yX1_isOfKind cX1_isOfKind 5 (some .boolean), .fieldLink RX1 9 "SharedShadow$Land" "kind" "[I", .fieldLink RX1 75 "SharedShadow$Land" "UNDER" "[I", .methodLink RX1 56 yX1_isPerson, .instanceMethod yX1_isPerson, .selects RX1 yX1_isPerson yX1_isPerson, .code yX1_isPerson cX1_isPerson 2 (some .boolean), .fieldLink RX1 30 "SharedShadow$Land" "people" "I"] ++ wsX70 ++ wsX10)
def wsX7_sheet_r1 : List Cond := [Cond.fieldLink RX7 54 "SharedShadow" "sheets" "[LSharedShadow$Sheet;", Cond.fieldLink RX7 265 "SharedShadow$Sheet" "length" "I", Cond.methodLink RX7 259 yX7_isSheet, Cond.static yX7_isSheet, Cond.initialized RX7, Cond.code yX7_isSheet cX7_isSheet 1 (some .boolean), Cond.methodLink RX7 67 yX7_isWithin, Cond.static yX7_isWithin, Cond.code yX7_isWithin cX7_isWithin 2 (some .boolean), Cond.methodLink RX7 71 yX7_found, Cond.instanceMethod yX7_found, Cond.selects RX7 yX7_found yX7_found, Cond.code yX7_found cX7_found 2 (some .int), Cond.fieldLink RX7 58 "SharedShadow" "findings" "[I", Cond.constant RX7 306 (-1000001), Cond.methodLink RX7 262 yX5_renew, Cond.instanceMethod yX5_renew, Cond.selects RX5 yX5_renew yX5_renew, Cond.initialized RX5, Cond.code yX5_renew cX5_renew 4 none, Cond.fieldLink RX5 15 "SharedShadow$Sheet" "bits" "I", Cond.methodLink RX5 22 Lib.Math.min.name, Cond.static Lib.Math.min.name, Cond.initialized "java/lang/Math"]
def wsX7_sheet_r2 : List Cond := [Cond.code Lib.Math.min.name Lib.Math.min.code 2 (some .int), Cond.methodLink RX5 28 Lib.Math.max.name, Cond.static Lib.Math.max.name, Cond.code Lib.Math.max.name Lib.Math.max.code 2 (some .int), Cond.fieldLink RX5 19 "SharedShadow$Sheet" "length" "I", Cond.fieldLink RX5 9 "SharedShadow$Sheet" "numbers" "[I"]
def wsX7_sheet : List Cond := .code yX7_sheet cX7_sheet 4 (some .int) :: ((wsX7_sheet_r1 ++ wsX7_sheet_r2) ++ wsX70 ++ wsX50)
def wsX7_write_r1 : List Cond := [Cond.fieldLink RX7 54 "SharedShadow" "sheets" "[LSharedShadow$Sheet;", Cond.fieldLink RX7 265 "SharedShadow$Sheet" "length" "I", Cond.methodLink RX7 206 yX7_lackOf, Cond.instanceMethod yX7_lackOf, Cond.selects RX7 yX7_lackOf yX7_lackOf, Cond.initialized RX7, Cond.code yX7_lackOf cX7_lackOf 2 (some .int), Cond.methodLink RX7 259 yX7_isSheet, Cond.static yX7_isSheet, Cond.code yX7_isSheet cX7_isSheet 1 (some .boolean), Cond.methodLink RX7 67 yX7_isWithin, Cond.static yX7_isWithin, Cond.code yX7_isWithin cX7_isWithin 2 (some .boolean), Cond.methodLink RX7 269 yX5_isMissing, Cond.instanceMethod yX5_isMissing, Cond.selects RX5 yX5_isMissing yX5_isMissing, Cond.initialized RX5, Cond.code yX5_isMissing cX5_isMissing 1 (some .boolean), Cond.fieldLink RX5 15 "SharedShadow$Sheet" "bits" "I", Cond.methodLink RX7 71 yX7_found, Cond.instanceMethod yX7_found, Cond.selects RX7 yX7_found yX7_found, Cond.code yX7_found cX7_found 2 (some .int), Cond.fieldLink RX7 58 "SharedShadow" "findings" "[I"]
def wsX7_write_r2 : List Cond := [Cond.constant RX7 306 (-1000001), Cond.methodLink RX7 266 yX5_put, Cond.instanceMethod yX5_put, Cond.selects RX5 yX5_put yX5_put, Cond.code yX5_put cX5_put 3 none, Cond.fieldLink RX5 19 "SharedShadow$Sheet" "length" "I", Cond.fieldLink RX5 9 "SharedShadow$Sheet" "numbers" "[I"]
def wsX7_write : List Cond := .code yX7_write cX7_write 5 (some .int) :: ((wsX7_write_r1 ++ wsX7_write_r2) ++ wsX70 ++ wsX50)
def wsX7_copy_r1 : List Cond := [Cond.fieldLink RX7 54 "SharedShadow" "sheets" "[LSharedShadow$Sheet;", Cond.fieldLink RX7 272 "SharedShadow$Sheet" "bits" "I", Cond.fieldLink RX7 278 "SharedShadow$Sheet" "numbers" "[I", Cond.methodLink RX7 281 arraycopyName, Cond.native arraycopyName, Cond.static arraycopyName, Cond.initialized "java/lang/System", Cond.methodLink RX7 259 yX7_isSheet, Cond.static yX7_isSheet, Cond.initialized RX7, Cond.code yX7_isSheet cX7_isSheet 1 (some .boolean), Cond.methodLink RX7 67 yX7_isWithin, Cond.static yX7_isWithin, Cond.code yX7_isWithin cX7_isWithin 2 (some .boolean), Cond.methodLink RX7 71 yX7_found, Cond.instanceMethod yX7_found, Cond.selects RX7 yX7_found yX7_found, Cond.code yX7_found cX7_found 2 (some .int), Cond.fieldLink RX7 58 "SharedShadow" "findings" "[I", Cond.constant RX7 306 (-1000001), Cond.methodLink RX7 269 yX5_isMissing, Cond.instanceMethod yX5_isMissing, Cond.selects RX5 yX5_isMissing yX5_isMissing, Cond.initialized RX5]
def wsX7_copy_r2 : List Cond := [Cond.code yX5_isMissing cX5_isMissing 1 (some .boolean), Cond.fieldLink RX5 15 "SharedShadow$Sheet" "bits" "I", Cond.methodLink RX7 275 yX5_hasRun, Cond.instanceMethod yX5_hasRun, Cond.selects RX5 yX5_hasRun yX5_hasRun, Cond.code yX5_hasRun cX5_hasRun 3 (some .boolean), Cond.fieldLink RX5 19 "SharedShadow$Sheet" "length" "I"]
def wsX7_copy : List Cond := .code yX7_copy cX7_copy 6 (some .int) :: ((wsX7_copy_r1 ++ wsX7_copy_r2) ++ wsX70 ++ wsX50)
def wsX7_load_r1 : List Cond := [Cond.fieldLink RX7 54 "SharedShadow" "sheets" "[LSharedShadow$Sheet;", Cond.fieldLink RX7 265 "SharedShadow$Sheet" "length" "I", Cond.fieldLink RX7 10 "SharedShadow" "land" "LSharedShadow$Land;", Cond.fieldLink RX7 200 "SharedShadow$Land" "people" "I", Cond.methodLink RX7 216 Lib.Math.min.name, Cond.static Lib.Math.min.name, Cond.initialized "java/lang/Math", Cond.code Lib.Math.min.name Lib.Math.min.code 2 (some .int), Cond.fieldLink RX7 278 "SharedShadow$Sheet" "numbers" "[I", Cond.fieldLink RX7 89 "SharedShadow$Land" "sun" "[I", Cond.methodLink RX7 206 yX7_lackOf, Cond.instanceMethod yX7_lackOf, Cond.selects RX7 yX7_lackOf yX7_lackOf, Cond.initialized RX7, Cond.code yX7_lackOf cX7_lackOf 2 (some .int), Cond.methodLink RX7 259 yX7_isSheet, Cond.static yX7_isSheet, Cond.code yX7_isSheet cX7_isSheet 1 (some .boolean), Cond.methodLink RX7 67 yX7_isWithin, Cond.static yX7_isWithin, Cond.code yX7_isWithin cX7_isWithin 2 (some .boolean), Cond.methodLink RX7 269 yX5_isMissing, Cond.instanceMethod yX5_isMissing, Cond.selects RX5 yX5_isMissing yX5_isMissing]
def wsX7_load_r2 : List Cond := [Cond.initialized RX5, Cond.code yX5_isMissing cX5_isMissing 1 (some .boolean), Cond.fieldLink RX5 15 "SharedShadow$Sheet" "bits" "I", Cond.methodLink RX7 71 yX7_found, Cond.instanceMethod yX7_found, Cond.selects RX7 yX7_found yX7_found, Cond.code yX7_found cX7_found 2 (some .int), Cond.fieldLink RX7 58 "SharedShadow" "findings" "[I", Cond.constant RX7 306 (-1000001)]
def wsX7_load : List Cond := .code yX7_load cX7_load 5 (some .int) :: ((wsX7_load_r1 ++ wsX7_load_r2) ++ wsX70 ++ wsX50 ++ wsX10)
def wsX7_judge_r1 : List Cond := [Cond.fieldLink RX7 22 "SharedShadow" "rest" "LSharedShadow$Rest;", Cond.fieldLink RX7 10 "SharedShadow" "land" "LSharedShadow$Land;", Cond.fieldLink RX7 54 "SharedShadow" "sheets" "[LSharedShadow$Sheet;", Cond.fieldLink RX7 265 "SharedShadow$Sheet" "length" "I", Cond.fieldLink RX7 101 "SharedShadow$Land" "hour" "I", Cond.fieldLink RX7 278 "SharedShadow$Sheet" "numbers" "[I", Cond.methodLink RX7 206 yX7_lackOf, Cond.instanceMethod yX7_lackOf, Cond.selects RX7 yX7_lackOf yX7_lackOf, Cond.initialized RX7, Cond.code yX7_lackOf cX7_lackOf 2 (some .int), Cond.methodLink RX7 259 yX7_isSheet, Cond.static yX7_isSheet, Cond.code yX7_isSheet cX7_isSheet 1 (some .boolean), Cond.methodLink RX7 67 yX7_isWithin, Cond.static yX7_isWithin, Cond.code yX7_isWithin cX7_isWithin 2 (some .boolean), Cond.methodLink RX7 269 yX5_isMissing, Cond.instanceMethod yX5_isMissing, Cond.selects RX5 yX5_isMissing yX5_isMissing, Cond.initialized RX5, Cond.code yX5_isMissing cX5_isMissing 1 (some .boolean), Cond.fieldLink RX5 15 "SharedShadow$Sheet" "bits" "I", Cond.methodLink RX7 71 yX7_found]
def wsX7_judge_r2 : List Cond := [Cond.instanceMethod yX7_found, Cond.selects RX7 yX7_found yX7_found, Cond.code yX7_found cX7_found 2 (some .int), Cond.fieldLink RX7 58 "SharedShadow" "findings" "[I", Cond.constant RX7 306 (-1000001), Cond.methodLink RX7 144 yX4_see, Cond.instanceMethod yX4_see, Cond.selects RX4 yX4_see yX4_see, Cond.initialized RX4, Cond.code yX4_see cX4_see 2 none, Cond.methodLink RX4 29 yX4_begin, Cond.instanceMethod yX4_begin, Cond.selects RX4 yX4_begin yX4_begin, Cond.code yX4_begin cX4_begin 2 none, Cond.fieldLink RX4 12 "SharedShadow$Rest" "to" "LSharedShadow$Land;", Cond.fieldLink RX4 39 "SharedShadow$Land" "hour" "I", Cond.fieldLink RX4 22 "SharedShadow$Rest" "first" "I", Cond.fieldLink RX4 26 "SharedShadow$Rest" "left" "I", Cond.methodLink RX4 36 yX1_become, Cond.instanceMethod yX1_become, Cond.selects RX1 yX1_become yX1_become, Cond.initialized RX1, Cond.code yX1_become cX1_become 2 none, Cond.fieldLink RX1 9 "SharedShadow$Land" "kind" "[I"]
def wsX7_judge_r3 : List Cond := [Cond.methodLink RX1 50 arraycopyName, Cond.native arraycopyName, Cond.static arraycopyName, Cond.initialized "java/lang/System", Cond.fieldLink RX1 15 "SharedShadow$Land" "sun" "[I", Cond.fieldLink RX1 18 "SharedShadow$Land" "strength" "[I", Cond.fieldLink RX1 21 "SharedShadow$Land" "needs" "[I", Cond.fieldLink RX1 24 "SharedShadow$Land" "partner" "[I", Cond.fieldLink RX1 27 "SharedShadow$Land" "spots" "[I", Cond.fieldLink RX1 30 "SharedShadow$Land" "people" "I", Cond.fieldLink RX1 35 "SharedShadow$Land" "lit" "I", Cond.fieldLink RX1 38 "SharedShadow$Land" "hour" "I", Cond.fieldLink RX1 41 "SharedShadow$Land" "wereMet" "I", Cond.fieldLink RX1 44 "SharedShadow$Land" "wereMissed" "I", Cond.fieldLink RX1 47 "SharedShadow$Land" "drawn" "I", Cond.methodLink RX4 42 yX1_hoursLeft, Cond.instanceMethod yX1_hoursLeft, Cond.selects RX1 yX1_hoursLeft yX1_hoursLeft, Cond.code yX1_hoursLeft cX1_hoursLeft 1 (some .int), Cond.constant RX1 34 (65535), Cond.methodLink RX4 33 yX4_run, Cond.instanceMethod yX4_run, Cond.selects RX4 yX4_run yX4_run, Cond.code yX4_run cX4_run 2 none]
def wsX7_judge_r4 : List Cond := [Cond.fieldLink RX4 18 "SharedShadow$Rest" "have" "[I", Cond.methodLink RX4 46 yX1_havers, Cond.instanceMethod yX1_havers, Cond.selects RX1 yX1_havers yX1_havers, Cond.code yX1_havers cX1_havers 3 (some .int), Cond.static yX7_bit, Cond.code yX7_bit cX7_bit 2 (some .int), Cond.methodLink RX1 93 yX1_stronger, Cond.instanceMethod yX1_stronger, Cond.selects RX1 yX1_stronger yX1_stronger, Cond.code yX1_stronger cX1_stronger 6 (some .int), Cond.methodLink RX1 78 Lib.Math.min.name, Cond.static Lib.Math.min.name, Cond.initialized "java/lang/Math", Cond.code Lib.Math.min.name Lib.Math.min.code 2 (some .int), Cond.methodLink RX1 84 Lib.Math.max.name, Cond.static Lib.Math.max.name, Cond.code Lib.Math.max.name Lib.Math.max.code 2 (some .int), Cond.methodLink RX1 87 yX1_claimOf, Cond.instanceMethod yX1_claimOf, Cond.selects RX1 yX1_claimOf yX1_claimOf, Cond.code yX1_claimOf cX1_claimOf 5 (some .int), Cond.methodLink RX4 49 yX1_passHour, Cond.instanceMethod yX1_passHour]
def wsX7_judge_r5 : List Cond := [Cond.selects RX1 yX1_passHour yX1_passHour, Cond.code yX1_passHour cX1_passHour 5 none, Cond.methodLink RX1 104 yX1_tally, Cond.instanceMethod yX1_tally, Cond.selects RX1 yX1_tally yX1_tally, Cond.code yX1_tally cX1_tally 2 none, Cond.methodLink RX7 287 yX4_isShadowSet, Cond.instanceMethod yX4_isShadowSet, Cond.selects RX4 yX4_isShadowSet yX4_isShadowSet, Cond.code yX4_isShadowSet cX4_isShadowSet 3 (some .boolean)]
def wsX7_judge : List Cond := .code yX7_judge cX7_judge 4 (some .int) :: ((wsX7_judge_r1 ++ (wsX7_judge_r2 ++ (wsX7_judge_r3 ++ (wsX7_judge_r4 ++ wsX7_judge_r5)))) ++ wsX70 ++ wsX50 ++ wsX10 ++ wsX40)
def wsX7_image : List Cond := .code yX7_image cX7_image 1 (some .int) :: ([.fieldLink RX7 16 "SharedShadow" "kept" "LSharedShadow$Land;", .fieldLink RX7 10 "SharedShadow" "land" "LSharedShadow$Land;", .fieldLink RX7 62 "SharedShadow" "isKept" "Z", .methodLink RX7 290 yX1_become, .instanceMethod yX1_become, .selects RX1 yX1_become yX1_become, .initialized RX1, .code yX1_become cX1_become 2 none, .fieldLink RX1 9 "SharedShadow$Land" "kind" "[I", .methodLink RX1 50 arraycopyName, .native arraycopyName, .static arraycopyName, .initialized "java/lang/System", .fieldLink RX1 15 "SharedShadow$Land" "sun" "[I", .fieldLink RX1 18 "SharedShadow$Land" "strength" "[I", .fieldLink RX1 21 "SharedShadow$Land" "needs" "[I", .fieldLink RX1 24 "SharedShadow$Land" "partner" "[I", .fieldLink RX1 27 "SharedShadow$Land" "spots" "[I", .fieldLink RX1 30 "SharedShadow$Land" "people" "I", .fieldLink RX1 35 "SharedShadow$Land" "lit" "I", .fieldLink RX1 38 "SharedShadow$Land" "hour" "I", .fieldLink RX1 41 "SharedShadow$Land" "wereMet" "I", .fieldLink RX1 44 "SharedShadow$Land" "wereMissed" "I", .fieldLink RX1 47 "SharedShadow$Land" "drawn" "I"] ++ wsX70 ++ wsX10)
def wsX7_undo_r1 : List Cond := [Cond.fieldLink RX7 62 "SharedShadow" "isKept" "Z", Cond.fieldLink RX7 10 "SharedShadow" "land" "LSharedShadow$Land;", Cond.fieldLink RX7 16 "SharedShadow" "kept" "LSharedShadow$Land;", Cond.fieldLink RX7 101 "SharedShadow$Land" "hour" "I", Cond.methodLink RX7 71 yX7_found, Cond.instanceMethod yX7_found, Cond.selects RX7 yX7_found yX7_found, Cond.initialized RX7, Cond.code yX7_found cX7_found 2 (some .int), Cond.fieldLink RX7 58 "SharedShadow" "findings" "[I", Cond.constant RX7 306 (-1000001), Cond.methodLink RX7 290 yX1_become, Cond.instanceMethod yX1_become, Cond.selects RX1 yX1_become yX1_become, Cond.initialized RX1, Cond.code yX1_become cX1_become 2 none, Cond.fieldLink RX1 9 "SharedShadow$Land" "kind" "[I", Cond.methodLink RX1 50 arraycopyName, Cond.native arraycopyName, Cond.static arraycopyName, Cond.initialized "java/lang/System", Cond.fieldLink RX1 15 "SharedShadow$Land" "sun" "[I", Cond.fieldLink RX1 18 "SharedShadow$Land" "strength" "[I", Cond.fieldLink RX1 21 "SharedShadow$Land" "needs" "[I"]
def wsX7_undo_r2 : List Cond := [Cond.fieldLink RX1 24 "SharedShadow$Land" "partner" "[I", Cond.fieldLink RX1 27 "SharedShadow$Land" "spots" "[I", Cond.fieldLink RX1 30 "SharedShadow$Land" "people" "I", Cond.fieldLink RX1 35 "SharedShadow$Land" "lit" "I", Cond.fieldLink RX1 38 "SharedShadow$Land" "hour" "I", Cond.fieldLink RX1 41 "SharedShadow$Land" "wereMet" "I", Cond.fieldLink RX1 44 "SharedShadow$Land" "wereMissed" "I", Cond.fieldLink RX1 47 "SharedShadow$Land" "drawn" "I"]
def wsX7_undo : List Cond := .code yX7_undo cX7_undo 1 (some .int) :: ((wsX7_undo_r1 ++ wsX7_undo_r2) ++ wsX70 ++ wsX10)
def wsX7_tear : List Cond := .code yX7_tear cX7_tear 2 (some .int) :: ([.fieldLink RX7 62 "SharedShadow" "isKept" "Z"] ++ wsX70)
def wsX7_count_r1 : List Cond := [Cond.fieldLink RX7 10 "SharedShadow" "land" "LSharedShadow$Land;", Cond.fieldLink RX7 101 "SharedShadow$Land" "hour" "I", Cond.fieldLink RX7 200 "SharedShadow$Land" "people" "I", Cond.fieldLink RX7 138 "SharedShadow$Land" "wereMet" "I", Cond.fieldLink RX7 51 "SharedShadow" "tape" "LSharedShadow$Tape;", Cond.fieldLink RX7 243 "SharedShadow$Tape" "length" "I", Cond.fieldLink RX7 238 "SharedShadow$Land" "drawn" "I", Cond.methodLink RX7 293 yX1_countMated, Cond.instanceMethod yX1_countMated, Cond.selects RX1 yX1_countMated yX1_countMated, Cond.initialized RX1, Cond.code yX1_countMated cX1_countMated 3 (some .int), Cond.fieldLink RX1 30 "SharedShadow$Land" "people" "I", Cond.fieldLink RX1 24 "SharedShadow$Land" "partner" "[I", Cond.methodLink RX7 296 yX1_sunOfAll, Cond.instanceMethod yX1_sunOfAll, Cond.selects RX1 yX1_sunOfAll yX1_sunOfAll, Cond.code yX1_sunOfAll cX1_sunOfAll 3 (some .int), Cond.fieldLink RX1 15 "SharedShadow$Land" "sun" "[I", Cond.methodLink RX7 299 yX1_countHeld, Cond.instanceMethod yX1_countHeld, Cond.selects RX1 yX1_countHeld yX1_countHeld, Cond.code yX1_countHeld cX1_countHeld 6 (some .int), Cond.fieldLink RX1 27 "SharedShadow$Land" "spots" "[I"]
def wsX7_count_r2 : List Cond := [Cond.methodLink RX7 71 yX7_found, Cond.instanceMethod yX7_found, Cond.selects RX7 yX7_found yX7_found, Cond.initialized RX7, Cond.code yX7_found cX7_found 2 (some .int), Cond.fieldLink RX7 58 "SharedShadow" "findings" "[I", Cond.constant RX7 306 (-1000001)]
def wsX7_count : List Cond := .code yX7_count cX7_count 2 (some .int) :: ((wsX7_count_r1 ++ wsX7_count_r2) ++ wsX70 ++ wsX10 ++ wsX60)
def wsX7_sum : List Cond := .code yX7_sum cX7_sum 6 (some .int) :: ([])
def wsX7_status : List Cond := .code yX7_status cX7_status 2 (some .int) :: ([.fieldLink RX7 58 "SharedShadow" "findings" "[I", .methodLink RX7 302 yX7_sum, .static yX7_sum, .initialized RX7, .code yX7_sum cX7_sum 6 (some .int), .methodLink RX7 67 yX7_isWithin, .static yX7_isWithin, .code yX7_isWithin cX7_isWithin 2 (some .boolean), .methodLink RX7 71 yX7_found, .instanceMethod yX7_found, .selects RX7 yX7_found yX7_found, .code yX7_found cX7_found 2 (some .int), .constant RX7 306 (-1000001)] ++ wsX70)
def wsX8_init : List Cond := .code yX8_init cX8_init 2 none :: ([.methodLink RX8 1 objectInit, .instanceMethod objectInit, .code objectInit ⟨#[0xb1]⟩ 1 none, .arrayClass .int, .fieldLink RX8 9 "SharedShadowModel" "now" "[I", .fieldLink RX8 13 "SharedShadowModel" "kept" "[I", .fieldLink RX8 16 "SharedShadowModel" "aside" "[I", .fieldLink RX8 19 "SharedShadowModel" "found" "[I", .fieldLink RX8 22 "SharedShadowModel" "fewest" "[I", .fieldLink RX8 25 "SharedShadowModel" "mosts" "[I", .fieldLink RX8 28 "SharedShadowModel" "many" "[I", .fieldLink RX8 31 "SharedShadowModel" "mates" "[I", .fieldLink RX8 34 "SharedShadowModel" "tape" "[I", .classLink RX8 37 RJ0, .fieldLink RX8 53 "SharedShadowModel" "kinds" "[Ljava/lang/String;", .fieldLink RX8 57 "SharedShadowModel" "items" "[I", .fieldLink RX8 60 "SharedShadowModel" "widths" "[I", .fieldLink RX8 63 "SharedShadowModel" "sizes" "[I", .fieldLink RX8 66 "SharedShadowModel" "numbers" "[I", .fieldLink RX8 69 "SharedShadowModel" "moved" "[I", .constant RX8 72 (65535)] ++ wsX80)
def wsX8_finding : List Cond := .code yX8_finding cX8_finding 2 (some .int) :: ([.fieldLink RX8 19 "SharedShadowModel" "found" "[I", .constant RX8 73 (-1000001)] ++ wsX80)
def wsX8_within : List Cond := .code yX8_within cX8_within 3 (some .boolean) :: ([])
def wsX8_become : List Cond := .code yX8_become cX8_become 4 (some .int) :: ([.fieldLink RX8 9 "SharedShadowModel" "now" "[I"] ++ wsX80)
def wsX8_copyRow : List Cond := .code yX8_copyRow cX8_copyRow 3 none :: ([])
def wsX8_putBack : List Cond := .code yX8_putBack cX8_putBack 2 (some .int) :: ([.fieldLink RX8 16 "SharedShadowModel" "aside" "[I", .fieldLink RX8 9 "SharedShadowModel" "now" "[I", .methodLink RX8 74 yX8_copyRow, .static yX8_copyRow, .initialized RX8, .code yX8_copyRow cX8_copyRow 3 none] ++ wsX80)
def wsX8_has : List Cond := .code yX8_has cX8_has 2 (some .boolean) :: ([])
def wsX8_bits : List Cond := .code yX8_bits cX8_bits 3 (some .int) :: ([])
def wsX8_isPerson : List Cond := .code yX8_isPerson cX8_isPerson 2 (some .boolean) :: ([.fieldLink RX8 9 "SharedShadowModel" "now" "[I", .methodLink RX8 78 yX8_within, .static yX8_within, .initialized RX8, .code yX8_within cX8_within 3 (some .boolean)] ++ wsX80)
def wsX8_isKind : List Cond := .code yX8_isKind cX8_isKind 1 (some .boolean) :: ([.methodLink RX8 78 yX8_within, .static yX8_within, .initialized RX8, .code yX8_within cX8_within 3 (some .boolean)])
def wsX8_isHours : List Cond := .code yX8_isHours cX8_isHours 1 (some .boolean) :: ([.constant RX8 72 (65535), .methodLink RX8 78 yX8_within, .static yX8_within, .initialized RX8, .code yX8_within cX8_within 3 (some .boolean)])
def wsX8_at : List Cond := .code yX8_at cX8_at 2 (some .int) :: ([])
def wsX8_personIs : List Cond := .code yX8_personIs cX8_personIs 3 (some .int) :: ([.fieldLink RX8 9 "SharedShadowModel" "now" "[I", .methodLink RX8 82 yX8_at, .static yX8_at, .initialized RX8, .code yX8_at cX8_at 2 (some .int)] ++ wsX80)
def wsX8_comes : List Cond := .code yX8_comes cX8_comes 6 (some .int) :: ([.fieldLink RX8 9 "SharedShadowModel" "now" "[I", .methodLink RX8 82 yX8_at, .static yX8_at, .initialized RX8, .code yX8_at cX8_at 2 (some .int)] ++ wsX80)
def wsX8_person : List Cond := .code yX8_person cX8_person 2 (some .int) :: ([.constant RX8 73 (-1000001), .fieldLink RX8 9 "SharedShadowModel" "now" "[I", .constant RX8 94 (-1000002), .methodLink RX8 86 yX8_isKind, .static yX8_isKind, .initialized RX8, .code yX8_isKind cX8_isKind 1 (some .boolean), .methodLink RX8 78 yX8_within, .static yX8_within, .code yX8_within cX8_within 3 (some .boolean), .methodLink RX8 90 yX8_finding, .instanceMethod yX8_finding, .selects RX8 yX8_finding yX8_finding, .code yX8_finding cX8_finding 2 (some .int), .fieldLink RX8 19 "SharedShadowModel" "found" "[I", .methodLink RX8 95 yX8_comes, .instanceMethod yX8_comes, .selects RX8 yX8_comes yX8_comes, .code yX8_comes cX8_comes 6 (some .int), .methodLink RX8 82 yX8_at, .static yX8_at, .code yX8_at cX8_at 2 (some .int)] ++ wsX80)
def wsX8_above : List Cond := .code yX8_above cX8_above 1 (some .int) :: ([])
def wsX8_isUnder : List Cond := .code yX8_isUnder cX8_isUnder 3 (some .boolean) :: ([.methodLink RX8 99 yX8_above, .static yX8_above, .initialized RX8, .code yX8_above cX8_above 1 (some .int)])
def wsX8_claimOf : List Cond := .code yX8_claimOf cX8_claimOf 5 (some .int) :: ([.methodLink RX8 102 yX8_personIs, .instanceMethod yX8_personIs, .selects RX8 yX8_personIs yX8_personIs, .initialized RX8, .code yX8_personIs cX8_personIs 3 (some .int), .fieldLink RX8 9 "SharedShadowModel" "now" "[I", .methodLink RX8 82 yX8_at, .static yX8_at, .code yX8_at cX8_at 2 (some .int)] ++ wsX80)
def wsX8_firstOf : List Cond := .code yX8_firstOf cX8_firstOf 6 (some .int) :: ([.methodLink RX8 105 Lib.Math.min.name, .static Lib.Math.min.name, .initialized "java/lang/Math", .code Lib.Math.min.name Lib.Math.min.code 2 (some .int), .methodLink RX8 110 Lib.Math.max.name, .static Lib.Math.max.name, .code Lib.Math.max.name Lib.Math.max.code 2 (some .int), .methodLink RX8 113 yX8_claimOf, .instanceMethod yX8_claimOf, .selects RX8 yX8_claimOf yX8_claimOf, .initialized RX8, .code yX8_claimOf cX8_claimOf 5 (some .int), .methodLink RX8 102 yX8_personIs, .instanceMethod yX8_personIs, .selects RX8 yX8_personIs yX8_personIs, .code yX8_personIs cX8_personIs 3 (some .int), .fieldLink RX8 9 "SharedShadowModel" "now" "[I", .methodLink RX8 82 yX8_at, .static yX8_at, .code yX8_at cX8_at 2 (some .int)] ++ wsX80)
def wsX8_isLit : List Cond := .code yX8_isLit cX8_isLit 2 (some .boolean) :: ([.fieldLink RX8 9 "SharedShadowModel" "now" "[I", .methodLink RX8 116 yX8_has, .static yX8_has, .initialized RX8, .code yX8_has cX8_has 2 (some .boolean)] ++ wsX80)
def wsX8_hasShadow_r1 : List Cond := [Cond.methodLink RX8 102 yX8_personIs, Cond.instanceMethod yX8_personIs, Cond.selects RX8 yX8_personIs yX8_personIs, Cond.initialized RX8, Cond.code yX8_personIs cX8_personIs 3 (some .int), Cond.fieldLink RX8 9 "SharedShadowModel" "now" "[I", Cond.methodLink RX8 82 yX8_at, Cond.static yX8_at, Cond.code yX8_at cX8_at 2 (some .int), Cond.methodLink RX8 120 yX8_isLit, Cond.instanceMethod yX8_isLit, Cond.selects RX8 yX8_isLit yX8_isLit, Cond.code yX8_isLit cX8_isLit 2 (some .boolean), Cond.methodLink RX8 116 yX8_has, Cond.static yX8_has, Cond.code yX8_has cX8_has 2 (some .boolean), Cond.methodLink RX8 123 yX8_firstOf, Cond.instanceMethod yX8_firstOf, Cond.selects RX8 yX8_firstOf yX8_firstOf, Cond.code yX8_firstOf cX8_firstOf 6 (some .int), Cond.methodLink RX8 105 Lib.Math.min.name, Cond.static Lib.Math.min.name, Cond.initialized "java/lang/Math", Cond.code Lib.Math.min.name Lib.Math.min.code 2 (some .int)]
def wsX8_hasShadow_r2 : List Cond := [Cond.methodLink RX8 110 Lib.Math.max.name, Cond.static Lib.Math.max.name, Cond.code Lib.Math.max.name Lib.Math.max.code 2 (some .int), Cond.methodLink RX8 113 yX8_claimOf, Cond.instanceMethod yX8_claimOf, Cond.selects RX8 yX8_claimOf yX8_claimOf, Cond.code yX8_claimOf cX8_claimOf 5 (some .int)]
def wsX8_hasShadow : List Cond := .code yX8_hasShadow cX8_hasShadow 4 (some .boolean) :: ((wsX8_hasShadow_r1 ++ wsX8_hasShadow_r2) ++ wsX80)
def wsX8_whoHave_r1 : List Cond := [Cond.fieldLink RX8 9 "SharedShadowModel" "now" "[I", Cond.methodLink RX8 127 yX8_hasShadow, Cond.instanceMethod yX8_hasShadow, Cond.selects RX8 yX8_hasShadow yX8_hasShadow, Cond.initialized RX8, Cond.code yX8_hasShadow cX8_hasShadow 4 (some .boolean), Cond.methodLink RX8 102 yX8_personIs, Cond.instanceMethod yX8_personIs, Cond.selects RX8 yX8_personIs yX8_personIs, Cond.code yX8_personIs cX8_personIs 3 (some .int), Cond.methodLink RX8 82 yX8_at, Cond.static yX8_at, Cond.code yX8_at cX8_at 2 (some .int), Cond.methodLink RX8 120 yX8_isLit, Cond.instanceMethod yX8_isLit, Cond.selects RX8 yX8_isLit yX8_isLit, Cond.code yX8_isLit cX8_isLit 2 (some .boolean), Cond.methodLink RX8 116 yX8_has, Cond.static yX8_has, Cond.code yX8_has cX8_has 2 (some .boolean), Cond.methodLink RX8 123 yX8_firstOf, Cond.instanceMethod yX8_firstOf, Cond.selects RX8 yX8_firstOf yX8_firstOf, Cond.code yX8_firstOf cX8_firstOf 6 (some .int)]
def wsX8_whoHave_r2 : List Cond := [Cond.methodLink RX8 105 Lib.Math.min.name, Cond.static Lib.Math.min.name, Cond.initialized "java/lang/Math", Cond.code Lib.Math.min.name Lib.Math.min.code 2 (some .int), Cond.methodLink RX8 110 Lib.Math.max.name, Cond.static Lib.Math.max.name, Cond.code Lib.Math.max.name Lib.Math.max.code 2 (some .int), Cond.methodLink RX8 113 yX8_claimOf, Cond.instanceMethod yX8_claimOf, Cond.selects RX8 yX8_claimOf yX8_claimOf, Cond.code yX8_claimOf cX8_claimOf 5 (some .int)]
def wsX8_whoHave : List Cond := .code yX8_whoHave cX8_whoHave 4 (some .int) :: ((wsX8_whoHave_r1 ++ wsX8_whoHave_r2) ++ wsX80)
def wsX8_isOver : List Cond := .code yX8_isOver cX8_isOver 1 (some .boolean) :: ([.fieldLink RX8 9 "SharedShadowModel" "now" "[I"] ++ wsX80)
def wsX8_of_r1 : List Cond := [Cond.constant RX8 73 (-1000001), Cond.fieldLink RX8 9 "SharedShadowModel" "now" "[I", Cond.methodLink RX8 130 yX8_isPerson, Cond.instanceMethod yX8_isPerson, Cond.selects RX8 yX8_isPerson yX8_isPerson, Cond.initialized RX8, Cond.code yX8_isPerson cX8_isPerson 2 (some .boolean), Cond.methodLink RX8 78 yX8_within, Cond.static yX8_within, Cond.code yX8_within cX8_within 3 (some .boolean), Cond.methodLink RX8 90 yX8_finding, Cond.instanceMethod yX8_finding, Cond.selects RX8 yX8_finding yX8_finding, Cond.code yX8_finding cX8_finding 2 (some .int), Cond.fieldLink RX8 19 "SharedShadowModel" "found" "[I", Cond.methodLink RX8 102 yX8_personIs, Cond.instanceMethod yX8_personIs, Cond.selects RX8 yX8_personIs yX8_personIs, Cond.code yX8_personIs cX8_personIs 3 (some .int), Cond.methodLink RX8 82 yX8_at, Cond.static yX8_at, Cond.code yX8_at cX8_at 2 (some .int), Cond.methodLink RX8 133 yX8_isOver, Cond.instanceMethod yX8_isOver]
def wsX8_of_r2 : List Cond := [Cond.selects RX8 yX8_isOver yX8_isOver, Cond.code yX8_isOver cX8_isOver 1 (some .boolean), Cond.methodLink RX8 113 yX8_claimOf, Cond.instanceMethod yX8_claimOf, Cond.selects RX8 yX8_claimOf yX8_claimOf, Cond.code yX8_claimOf cX8_claimOf 5 (some .int), Cond.methodLink RX8 127 yX8_hasShadow, Cond.instanceMethod yX8_hasShadow, Cond.selects RX8 yX8_hasShadow yX8_hasShadow, Cond.code yX8_hasShadow cX8_hasShadow 4 (some .boolean), Cond.methodLink RX8 120 yX8_isLit, Cond.instanceMethod yX8_isLit, Cond.selects RX8 yX8_isLit yX8_isLit, Cond.code yX8_isLit cX8_isLit 2 (some .boolean), Cond.methodLink RX8 116 yX8_has, Cond.static yX8_has, Cond.code yX8_has cX8_has 2 (some .boolean), Cond.methodLink RX8 123 yX8_firstOf, Cond.instanceMethod yX8_firstOf, Cond.selects RX8 yX8_firstOf yX8_firstOf, Cond.code yX8_firstOf cX8_firstOf 6 (some .int), Cond.methodLink RX8 105 Lib.Math.min.name, Cond.static Lib.Math.min.name, Cond.initialized "java/lang/Math"]
def wsX8_of_r3 : List Cond := [Cond.code Lib.Math.min.name Lib.Math.min.code 2 (some .int), Cond.methodLink RX8 110 Lib.Math.max.name, Cond.static Lib.Math.max.name, Cond.code Lib.Math.max.name Lib.Math.max.code 2 (some .int)]
def wsX8_of : List Cond := .code yX8_of cX8_of 3 (some .int) :: ((wsX8_of_r1 ++ (wsX8_of_r2 ++ wsX8_of_r3)) ++ wsX80)
def wsX8_change_r1 : List Cond := [Cond.constant RX8 73 (-1000001), Cond.methodLink RX8 86 yX8_isKind, Cond.static yX8_isKind, Cond.initialized RX8, Cond.code yX8_isKind cX8_isKind 1 (some .boolean), Cond.methodLink RX8 78 yX8_within, Cond.static yX8_within, Cond.code yX8_within cX8_within 3 (some .boolean), Cond.methodLink RX8 137 yX8_isHours, Cond.static yX8_isHours, Cond.code yX8_isHours cX8_isHours 1 (some .boolean), Cond.constant RX8 72 (65535), Cond.methodLink RX8 130 yX8_isPerson, Cond.instanceMethod yX8_isPerson, Cond.selects RX8 yX8_isPerson yX8_isPerson, Cond.code yX8_isPerson cX8_isPerson 2 (some .boolean), Cond.fieldLink RX8 9 "SharedShadowModel" "now" "[I", Cond.methodLink RX8 82 yX8_at, Cond.static yX8_at, Cond.code yX8_at cX8_at 2 (some .int), Cond.methodLink RX8 140 yX8_become, Cond.instanceMethod yX8_become, Cond.selects RX8 yX8_become yX8_become, Cond.code yX8_become cX8_become 4 (some .int)]
def wsX8_change_r2 : List Cond := [Cond.methodLink RX8 90 yX8_finding, Cond.instanceMethod yX8_finding, Cond.selects RX8 yX8_finding yX8_finding, Cond.code yX8_finding cX8_finding 2 (some .int), Cond.fieldLink RX8 19 "SharedShadowModel" "found" "[I"]
def wsX8_change : List Cond := .code yX8_change cX8_change 5 (some .int) :: ((wsX8_change_r1 ++ wsX8_change_r2) ++ wsX80)
def wsX8_parts : List Cond := .code yX8_parts cX8_parts 3 (some .int) :: ([.fieldLink RX8 9 "SharedShadowModel" "now" "[I", .methodLink RX8 82 yX8_at, .static yX8_at, .initialized RX8, .code yX8_at cX8_at 2 (some .int), .methodLink RX8 140 yX8_become, .instanceMethod yX8_become, .selects RX8 yX8_become yX8_become, .code yX8_become cX8_become 4 (some .int)] ++ wsX80)
def wsX8_areMates : List Cond := .code yX8_areMates cX8_areMates 4 (some .int) :: ([.fieldLink RX8 9 "SharedShadowModel" "now" "[I", .methodLink RX8 102 yX8_personIs, .instanceMethod yX8_personIs, .selects RX8 yX8_personIs yX8_personIs, .initialized RX8, .code yX8_personIs cX8_personIs 3 (some .int), .methodLink RX8 82 yX8_at, .static yX8_at, .code yX8_at cX8_at 2 (some .int), .methodLink RX8 143 yX8_parts, .instanceMethod yX8_parts, .selects RX8 yX8_parts yX8_parts, .code yX8_parts cX8_parts 3 (some .int), .methodLink RX8 140 yX8_become, .instanceMethod yX8_become, .selects RX8 yX8_become yX8_become, .code yX8_become cX8_become 4 (some .int)] ++ wsX80)
def wsX8_areTwo : List Cond := .code yX8_areTwo cX8_areTwo 3 (some .boolean) :: ([.methodLink RX8 130 yX8_isPerson, .instanceMethod yX8_isPerson, .selects RX8 yX8_isPerson yX8_isPerson, .initialized RX8, .code yX8_isPerson cX8_isPerson 2 (some .boolean), .fieldLink RX8 9 "SharedShadowModel" "now" "[I", .methodLink RX8 78 yX8_within, .static yX8_within, .code yX8_within cX8_within 3 (some .boolean)] ++ wsX80)
def wsX8_share_r1 : List Cond := [Cond.constant RX8 73 (-1000001), Cond.methodLink RX8 146 yX8_areTwo, Cond.instanceMethod yX8_areTwo, Cond.selects RX8 yX8_areTwo yX8_areTwo, Cond.initialized RX8, Cond.code yX8_areTwo cX8_areTwo 3 (some .boolean), Cond.methodLink RX8 130 yX8_isPerson, Cond.instanceMethod yX8_isPerson, Cond.selects RX8 yX8_isPerson yX8_isPerson, Cond.code yX8_isPerson cX8_isPerson 2 (some .boolean), Cond.fieldLink RX8 9 "SharedShadowModel" "now" "[I", Cond.methodLink RX8 78 yX8_within, Cond.static yX8_within, Cond.code yX8_within cX8_within 3 (some .boolean), Cond.methodLink RX8 149 yX8_areMates, Cond.instanceMethod yX8_areMates, Cond.selects RX8 yX8_areMates yX8_areMates, Cond.code yX8_areMates cX8_areMates 4 (some .int), Cond.methodLink RX8 102 yX8_personIs, Cond.instanceMethod yX8_personIs, Cond.selects RX8 yX8_personIs yX8_personIs, Cond.code yX8_personIs cX8_personIs 3 (some .int), Cond.methodLink RX8 82 yX8_at, Cond.static yX8_at]
def wsX8_share_r2 : List Cond := [Cond.code yX8_at cX8_at 2 (some .int), Cond.methodLink RX8 143 yX8_parts, Cond.instanceMethod yX8_parts, Cond.selects RX8 yX8_parts yX8_parts, Cond.code yX8_parts cX8_parts 3 (some .int), Cond.methodLink RX8 140 yX8_become, Cond.instanceMethod yX8_become, Cond.selects RX8 yX8_become yX8_become, Cond.code yX8_become cX8_become 4 (some .int), Cond.methodLink RX8 90 yX8_finding, Cond.instanceMethod yX8_finding, Cond.selects RX8 yX8_finding yX8_finding, Cond.code yX8_finding cX8_finding 2 (some .int), Cond.fieldLink RX8 19 "SharedShadowModel" "found" "[I"]
def wsX8_share : List Cond := .code yX8_share cX8_share 3 (some .int) :: ((wsX8_share_r1 ++ wsX8_share_r2) ++ wsX80)
def wsX8_part_r1 : List Cond := [Cond.constant RX8 73 (-1000001), Cond.constant RX8 152 (-1000004), Cond.methodLink RX8 130 yX8_isPerson, Cond.instanceMethod yX8_isPerson, Cond.selects RX8 yX8_isPerson yX8_isPerson, Cond.initialized RX8, Cond.code yX8_isPerson cX8_isPerson 2 (some .boolean), Cond.fieldLink RX8 9 "SharedShadowModel" "now" "[I", Cond.methodLink RX8 78 yX8_within, Cond.static yX8_within, Cond.code yX8_within cX8_within 3 (some .boolean), Cond.methodLink RX8 90 yX8_finding, Cond.instanceMethod yX8_finding, Cond.selects RX8 yX8_finding yX8_finding, Cond.code yX8_finding cX8_finding 2 (some .int), Cond.fieldLink RX8 19 "SharedShadowModel" "found" "[I", Cond.methodLink RX8 102 yX8_personIs, Cond.instanceMethod yX8_personIs, Cond.selects RX8 yX8_personIs yX8_personIs, Cond.code yX8_personIs cX8_personIs 3 (some .int), Cond.methodLink RX8 82 yX8_at, Cond.static yX8_at, Cond.code yX8_at cX8_at 2 (some .int), Cond.methodLink RX8 143 yX8_parts]
def wsX8_part_r2 : List Cond := [Cond.instanceMethod yX8_parts, Cond.selects RX8 yX8_parts yX8_parts, Cond.code yX8_parts cX8_parts 3 (some .int), Cond.methodLink RX8 140 yX8_become, Cond.instanceMethod yX8_become, Cond.selects RX8 yX8_become yX8_become, Cond.code yX8_become cX8_become 4 (some .int)]
def wsX8_part : List Cond := .code yX8_part cX8_part 2 (some .int) :: ((wsX8_part_r1 ++ wsX8_part_r2) ++ wsX80)
def wsX8_light : List Cond := .code yX8_light cX8_light 2 (some .int) :: ([.constant RX8 73 (-1000001), .methodLink RX8 137 yX8_isHours, .static yX8_isHours, .initialized RX8, .code yX8_isHours cX8_isHours 1 (some .boolean), .constant RX8 72 (65535), .methodLink RX8 78 yX8_within, .static yX8_within, .code yX8_within cX8_within 3 (some .boolean), .methodLink RX8 140 yX8_become, .instanceMethod yX8_become, .selects RX8 yX8_become yX8_become, .code yX8_become cX8_become 4 (some .int), .fieldLink RX8 9 "SharedShadowModel" "now" "[I", .methodLink RX8 90 yX8_finding, .instanceMethod yX8_finding, .selects RX8 yX8_finding yX8_finding, .code yX8_finding cX8_finding 2 (some .int), .fieldLink RX8 19 "SharedShadowModel" "found" "[I"] ++ wsX80)
def wsX8_claim_r1 : List Cond := [Cond.constant RX8 73 (-1000001), Cond.methodLink RX8 130 yX8_isPerson, Cond.instanceMethod yX8_isPerson, Cond.selects RX8 yX8_isPerson yX8_isPerson, Cond.initialized RX8, Cond.code yX8_isPerson cX8_isPerson 2 (some .boolean), Cond.fieldLink RX8 9 "SharedShadowModel" "now" "[I", Cond.methodLink RX8 78 yX8_within, Cond.static yX8_within, Cond.code yX8_within cX8_within 3 (some .boolean), Cond.methodLink RX8 113 yX8_claimOf, Cond.instanceMethod yX8_claimOf, Cond.selects RX8 yX8_claimOf yX8_claimOf, Cond.code yX8_claimOf cX8_claimOf 5 (some .int), Cond.methodLink RX8 102 yX8_personIs, Cond.instanceMethod yX8_personIs, Cond.selects RX8 yX8_personIs yX8_personIs, Cond.code yX8_personIs cX8_personIs 3 (some .int), Cond.methodLink RX8 82 yX8_at, Cond.static yX8_at, Cond.code yX8_at cX8_at 2 (some .int), Cond.methodLink RX8 90 yX8_finding, Cond.instanceMethod yX8_finding, Cond.selects RX8 yX8_finding yX8_finding]
def wsX8_claim_r2 : List Cond := [Cond.code yX8_finding cX8_finding 2 (some .int), Cond.fieldLink RX8 19 "SharedShadowModel" "found" "[I"]
def wsX8_claim : List Cond := .code yX8_claim cX8_claim 3 (some .int) :: ((wsX8_claim_r1 ++ wsX8_claim_r2) ++ wsX80)
def wsX8_hour_r1 : List Cond := [Cond.fieldLink RX8 9 "SharedShadowModel" "now" "[I", Cond.methodLink RX8 110 Lib.Math.max.name, Cond.static Lib.Math.max.name, Cond.initialized "java/lang/Math", Cond.code Lib.Math.max.name Lib.Math.max.code 2 (some .int), Cond.methodLink RX8 105 Lib.Math.min.name, Cond.static Lib.Math.min.name, Cond.code Lib.Math.min.name Lib.Math.min.code 2 (some .int), Cond.methodLink RX8 153 yX8_whoHave, Cond.instanceMethod yX8_whoHave, Cond.selects RX8 yX8_whoHave yX8_whoHave, Cond.initialized RX8, Cond.code yX8_whoHave cX8_whoHave 4 (some .int), Cond.methodLink RX8 127 yX8_hasShadow, Cond.instanceMethod yX8_hasShadow, Cond.selects RX8 yX8_hasShadow yX8_hasShadow, Cond.code yX8_hasShadow cX8_hasShadow 4 (some .boolean), Cond.methodLink RX8 102 yX8_personIs, Cond.instanceMethod yX8_personIs, Cond.selects RX8 yX8_personIs yX8_personIs, Cond.code yX8_personIs cX8_personIs 3 (some .int), Cond.methodLink RX8 82 yX8_at, Cond.static yX8_at, Cond.code yX8_at cX8_at 2 (some .int)]
def wsX8_hour_r2 : List Cond := [Cond.methodLink RX8 120 yX8_isLit, Cond.instanceMethod yX8_isLit, Cond.selects RX8 yX8_isLit yX8_isLit, Cond.code yX8_isLit cX8_isLit 2 (some .boolean), Cond.methodLink RX8 116 yX8_has, Cond.static yX8_has, Cond.code yX8_has cX8_has 2 (some .boolean), Cond.methodLink RX8 123 yX8_firstOf, Cond.instanceMethod yX8_firstOf, Cond.selects RX8 yX8_firstOf yX8_firstOf, Cond.code yX8_firstOf cX8_firstOf 6 (some .int), Cond.methodLink RX8 113 yX8_claimOf, Cond.instanceMethod yX8_claimOf, Cond.selects RX8 yX8_claimOf yX8_claimOf, Cond.code yX8_claimOf cX8_claimOf 5 (some .int)]
def wsX8_hour : List Cond := .code yX8_hour cX8_hour 7 none :: ((wsX8_hour_r1 ++ wsX8_hour_r2) ++ wsX80)
def wsX8_hoursGo_r1 : List Cond := [Cond.fieldLink RX8 9 "SharedShadowModel" "now" "[I", Cond.methodLink RX8 156 yX8_hour, Cond.instanceMethod yX8_hour, Cond.selects RX8 yX8_hour yX8_hour, Cond.initialized RX8, Cond.code yX8_hour cX8_hour 7 none, Cond.methodLink RX8 110 Lib.Math.max.name, Cond.static Lib.Math.max.name, Cond.initialized "java/lang/Math", Cond.code Lib.Math.max.name Lib.Math.max.code 2 (some .int), Cond.methodLink RX8 105 Lib.Math.min.name, Cond.static Lib.Math.min.name, Cond.code Lib.Math.min.name Lib.Math.min.code 2 (some .int), Cond.methodLink RX8 153 yX8_whoHave, Cond.instanceMethod yX8_whoHave, Cond.selects RX8 yX8_whoHave yX8_whoHave, Cond.code yX8_whoHave cX8_whoHave 4 (some .int), Cond.methodLink RX8 127 yX8_hasShadow, Cond.instanceMethod yX8_hasShadow, Cond.selects RX8 yX8_hasShadow yX8_hasShadow, Cond.code yX8_hasShadow cX8_hasShadow 4 (some .boolean), Cond.methodLink RX8 102 yX8_personIs, Cond.instanceMethod yX8_personIs, Cond.selects RX8 yX8_personIs yX8_personIs]
def wsX8_hoursGo_r2 : List Cond := [Cond.code yX8_personIs cX8_personIs 3 (some .int), Cond.methodLink RX8 82 yX8_at, Cond.static yX8_at, Cond.code yX8_at cX8_at 2 (some .int), Cond.methodLink RX8 120 yX8_isLit, Cond.instanceMethod yX8_isLit, Cond.selects RX8 yX8_isLit yX8_isLit, Cond.code yX8_isLit cX8_isLit 2 (some .boolean), Cond.methodLink RX8 116 yX8_has, Cond.static yX8_has, Cond.code yX8_has cX8_has 2 (some .boolean), Cond.methodLink RX8 123 yX8_firstOf, Cond.instanceMethod yX8_firstOf, Cond.selects RX8 yX8_firstOf yX8_firstOf, Cond.code yX8_firstOf cX8_firstOf 6 (some .int), Cond.methodLink RX8 113 yX8_claimOf, Cond.instanceMethod yX8_claimOf, Cond.selects RX8 yX8_claimOf yX8_claimOf, Cond.code yX8_claimOf cX8_claimOf 5 (some .int)]
def wsX8_hoursGo : List Cond := .code yX8_hoursGo cX8_hoursGo 3 (some .int) :: ((wsX8_hoursGo_r1 ++ wsX8_hoursGo_r2) ++ wsX80)
def wsX8_go_r1 : List Cond := [Cond.constant RX8 73 (-1000001), Cond.fieldLink RX8 9 "SharedShadowModel" "now" "[I", Cond.constant RX8 159 (-1000005), Cond.methodLink RX8 78 yX8_within, Cond.static yX8_within, Cond.initialized RX8, Cond.code yX8_within cX8_within 3 (some .boolean), Cond.methodLink RX8 90 yX8_finding, Cond.instanceMethod yX8_finding, Cond.selects RX8 yX8_finding yX8_finding, Cond.code yX8_finding cX8_finding 2 (some .int), Cond.fieldLink RX8 19 "SharedShadowModel" "found" "[I", Cond.methodLink RX8 160 yX8_hoursGo, Cond.instanceMethod yX8_hoursGo, Cond.selects RX8 yX8_hoursGo yX8_hoursGo, Cond.code yX8_hoursGo cX8_hoursGo 3 (some .int), Cond.methodLink RX8 156 yX8_hour, Cond.instanceMethod yX8_hour, Cond.selects RX8 yX8_hour yX8_hour, Cond.code yX8_hour cX8_hour 7 none, Cond.methodLink RX8 110 Lib.Math.max.name, Cond.static Lib.Math.max.name, Cond.initialized "java/lang/Math", Cond.code Lib.Math.max.name Lib.Math.max.code 2 (some .int)]
def wsX8_go_r2 : List Cond := [Cond.methodLink RX8 105 Lib.Math.min.name, Cond.static Lib.Math.min.name, Cond.code Lib.Math.min.name Lib.Math.min.code 2 (some .int), Cond.methodLink RX8 153 yX8_whoHave, Cond.instanceMethod yX8_whoHave, Cond.selects RX8 yX8_whoHave yX8_whoHave, Cond.code yX8_whoHave cX8_whoHave 4 (some .int), Cond.methodLink RX8 127 yX8_hasShadow, Cond.instanceMethod yX8_hasShadow, Cond.selects RX8 yX8_hasShadow yX8_hasShadow, Cond.code yX8_hasShadow cX8_hasShadow 4 (some .boolean), Cond.methodLink RX8 102 yX8_personIs, Cond.instanceMethod yX8_personIs, Cond.selects RX8 yX8_personIs yX8_personIs, Cond.code yX8_personIs cX8_personIs 3 (some .int), Cond.methodLink RX8 82 yX8_at, Cond.static yX8_at, Cond.code yX8_at cX8_at 2 (some .int), Cond.methodLink RX8 120 yX8_isLit, Cond.instanceMethod yX8_isLit, Cond.selects RX8 yX8_isLit yX8_isLit, Cond.code yX8_isLit cX8_isLit 2 (some .boolean), Cond.methodLink RX8 116 yX8_has, Cond.static yX8_has]
def wsX8_go_r3 : List Cond := [Cond.code yX8_has cX8_has 2 (some .boolean), Cond.methodLink RX8 123 yX8_firstOf, Cond.instanceMethod yX8_firstOf, Cond.selects RX8 yX8_firstOf yX8_firstOf, Cond.code yX8_firstOf cX8_firstOf 6 (some .int), Cond.methodLink RX8 113 yX8_claimOf, Cond.instanceMethod yX8_claimOf, Cond.selects RX8 yX8_claimOf yX8_claimOf, Cond.code yX8_claimOf cX8_claimOf 5 (some .int)]
def wsX8_go : List Cond := .code yX8_go cX8_go 2 (some .int) :: ((wsX8_go_r1 ++ (wsX8_go_r2 ++ wsX8_go_r3)) ++ wsX80)
def wsX8_at_ : List Cond := .code yX8_at_ cX8_at_ 2 (some .int) :: ([.constant RX8 73 (-1000001), .methodLink RX8 78 yX8_within, .static yX8_within, .initialized RX8, .code yX8_within cX8_within 3 (some .boolean), .methodLink RX8 140 yX8_become, .instanceMethod yX8_become, .selects RX8 yX8_become yX8_become, .code yX8_become cX8_become 4 (some .int), .fieldLink RX8 9 "SharedShadowModel" "now" "[I", .methodLink RX8 90 yX8_finding, .instanceMethod yX8_finding, .selects RX8 yX8_finding yX8_finding, .code yX8_finding cX8_finding 2 (some .int), .fieldLink RX8 19 "SharedShadowModel" "found" "[I"] ++ wsX80)
def wsX8_now_r1 : List Cond := [Cond.constant RX8 73 (-1000001), Cond.fieldLink RX8 9 "SharedShadowModel" "now" "[I", Cond.methodLink RX8 78 yX8_within, Cond.static yX8_within, Cond.initialized RX8, Cond.code yX8_within cX8_within 3 (some .boolean), Cond.methodLink RX8 90 yX8_finding, Cond.instanceMethod yX8_finding, Cond.selects RX8 yX8_finding yX8_finding, Cond.code yX8_finding cX8_finding 2 (some .int), Cond.fieldLink RX8 19 "SharedShadowModel" "found" "[I", Cond.methodLink RX8 133 yX8_isOver, Cond.instanceMethod yX8_isOver, Cond.selects RX8 yX8_isOver yX8_isOver, Cond.code yX8_isOver cX8_isOver 1 (some .boolean), Cond.methodLink RX8 153 yX8_whoHave, Cond.instanceMethod yX8_whoHave, Cond.selects RX8 yX8_whoHave yX8_whoHave, Cond.code yX8_whoHave cX8_whoHave 4 (some .int), Cond.methodLink RX8 127 yX8_hasShadow, Cond.instanceMethod yX8_hasShadow, Cond.selects RX8 yX8_hasShadow yX8_hasShadow, Cond.code yX8_hasShadow cX8_hasShadow 4 (some .boolean), Cond.methodLink RX8 102 yX8_personIs]
def wsX8_now_r2 : List Cond := [Cond.instanceMethod yX8_personIs, Cond.selects RX8 yX8_personIs yX8_personIs, Cond.code yX8_personIs cX8_personIs 3 (some .int), Cond.methodLink RX8 82 yX8_at, Cond.static yX8_at, Cond.code yX8_at cX8_at 2 (some .int), Cond.methodLink RX8 120 yX8_isLit, Cond.instanceMethod yX8_isLit, Cond.selects RX8 yX8_isLit yX8_isLit, Cond.code yX8_isLit cX8_isLit 2 (some .boolean), Cond.methodLink RX8 116 yX8_has, Cond.static yX8_has, Cond.code yX8_has cX8_has 2 (some .boolean), Cond.methodLink RX8 123 yX8_firstOf, Cond.instanceMethod yX8_firstOf, Cond.selects RX8 yX8_firstOf yX8_firstOf, Cond.code yX8_firstOf cX8_firstOf 6 (some .int), Cond.methodLink RX8 105 Lib.Math.min.name, Cond.static Lib.Math.min.name, Cond.initialized "java/lang/Math", Cond.code Lib.Math.min.name Lib.Math.min.code 2 (some .int), Cond.methodLink RX8 110 Lib.Math.max.name, Cond.static Lib.Math.max.name, Cond.code Lib.Math.max.name Lib.Math.max.code 2 (some .int)]
def wsX8_now_r3 : List Cond := [Cond.methodLink RX8 113 yX8_claimOf, Cond.instanceMethod yX8_claimOf, Cond.selects RX8 yX8_claimOf yX8_claimOf, Cond.code yX8_claimOf cX8_claimOf 5 (some .int)]
def wsX8_now : List Cond := .code yX8_now cX8_now 2 (some .int) :: ((wsX8_now_r1 ++ (wsX8_now_r2 ++ wsX8_now_r3)) ++ wsX80)
def wsX8_findRest_r1 : List Cond := [Cond.fieldLink RX8 9 "SharedShadowModel" "now" "[I", Cond.fieldLink RX8 16 "SharedShadowModel" "aside" "[I", Cond.fieldLink RX8 163 "SharedShadowModel" "servedThen" "I", Cond.fieldLink RX8 167 "SharedShadowModel" "shadeThen" "I", Cond.fieldLink RX8 170 "SharedShadowModel" "sunThen" "I", Cond.fieldLink RX8 176 "SharedShadowModel" "metThen" "I", Cond.methodLink RX8 74 yX8_copyRow, Cond.static yX8_copyRow, Cond.initialized RX8, Cond.code yX8_copyRow cX8_copyRow 3 none, Cond.methodLink RX8 133 yX8_isOver, Cond.instanceMethod yX8_isOver, Cond.selects RX8 yX8_isOver yX8_isOver, Cond.code yX8_isOver cX8_isOver 1 (some .boolean), Cond.methodLink RX8 127 yX8_hasShadow, Cond.instanceMethod yX8_hasShadow, Cond.selects RX8 yX8_hasShadow yX8_hasShadow, Cond.code yX8_hasShadow cX8_hasShadow 4 (some .boolean), Cond.methodLink RX8 102 yX8_personIs, Cond.instanceMethod yX8_personIs, Cond.selects RX8 yX8_personIs yX8_personIs, Cond.code yX8_personIs cX8_personIs 3 (some .int), Cond.methodLink RX8 82 yX8_at, Cond.static yX8_at]
def wsX8_findRest_r2 : List Cond := [Cond.code yX8_at cX8_at 2 (some .int), Cond.methodLink RX8 120 yX8_isLit, Cond.instanceMethod yX8_isLit, Cond.selects RX8 yX8_isLit yX8_isLit, Cond.code yX8_isLit cX8_isLit 2 (some .boolean), Cond.methodLink RX8 116 yX8_has, Cond.static yX8_has, Cond.code yX8_has cX8_has 2 (some .boolean), Cond.methodLink RX8 123 yX8_firstOf, Cond.instanceMethod yX8_firstOf, Cond.selects RX8 yX8_firstOf yX8_firstOf, Cond.code yX8_firstOf cX8_firstOf 6 (some .int), Cond.methodLink RX8 105 Lib.Math.min.name, Cond.static Lib.Math.min.name, Cond.initialized "java/lang/Math", Cond.code Lib.Math.min.name Lib.Math.min.code 2 (some .int), Cond.methodLink RX8 110 Lib.Math.max.name, Cond.static Lib.Math.max.name, Cond.code Lib.Math.max.name Lib.Math.max.code 2 (some .int), Cond.methodLink RX8 113 yX8_claimOf, Cond.instanceMethod yX8_claimOf, Cond.selects RX8 yX8_claimOf yX8_claimOf, Cond.code yX8_claimOf cX8_claimOf 5 (some .int), Cond.methodLink RX8 156 yX8_hour]
def wsX8_findRest_r3 : List Cond := [Cond.instanceMethod yX8_hour, Cond.selects RX8 yX8_hour yX8_hour, Cond.code yX8_hour cX8_hour 7 none, Cond.methodLink RX8 153 yX8_whoHave, Cond.instanceMethod yX8_whoHave, Cond.selects RX8 yX8_whoHave yX8_whoHave, Cond.code yX8_whoHave cX8_whoHave 4 (some .int), Cond.methodLink RX8 173 yX8_bits, Cond.static yX8_bits, Cond.code yX8_bits cX8_bits 3 (some .int)]
def wsX8_findRest : List Cond := .code yX8_findRest cX8_findRest 4 none :: ((wsX8_findRest_r1 ++ (wsX8_findRest_r2 ++ wsX8_findRest_r3)) ++ wsX80)
def wsX8_met_r1 : List Cond := [Cond.constant RX8 73 (-1000001), Cond.fieldLink RX8 176 "SharedShadowModel" "metThen" "I", Cond.methodLink RX8 130 yX8_isPerson, Cond.instanceMethod yX8_isPerson, Cond.selects RX8 yX8_isPerson yX8_isPerson, Cond.initialized RX8, Cond.code yX8_isPerson cX8_isPerson 2 (some .boolean), Cond.fieldLink RX8 9 "SharedShadowModel" "now" "[I", Cond.methodLink RX8 78 yX8_within, Cond.static yX8_within, Cond.code yX8_within cX8_within 3 (some .boolean), Cond.methodLink RX8 90 yX8_finding, Cond.instanceMethod yX8_finding, Cond.selects RX8 yX8_finding yX8_finding, Cond.code yX8_finding cX8_finding 2 (some .int), Cond.fieldLink RX8 19 "SharedShadowModel" "found" "[I", Cond.methodLink RX8 179 yX8_findRest, Cond.instanceMethod yX8_findRest, Cond.selects RX8 yX8_findRest yX8_findRest, Cond.code yX8_findRest cX8_findRest 4 none, Cond.fieldLink RX8 16 "SharedShadowModel" "aside" "[I", Cond.fieldLink RX8 163 "SharedShadowModel" "servedThen" "I", Cond.fieldLink RX8 167 "SharedShadowModel" "shadeThen" "I", Cond.fieldLink RX8 170 "SharedShadowModel" "sunThen" "I"]
def wsX8_met_r2 : List Cond := [Cond.methodLink RX8 74 yX8_copyRow, Cond.static yX8_copyRow, Cond.code yX8_copyRow cX8_copyRow 3 none, Cond.methodLink RX8 133 yX8_isOver, Cond.instanceMethod yX8_isOver, Cond.selects RX8 yX8_isOver yX8_isOver, Cond.code yX8_isOver cX8_isOver 1 (some .boolean), Cond.methodLink RX8 127 yX8_hasShadow, Cond.instanceMethod yX8_hasShadow, Cond.selects RX8 yX8_hasShadow yX8_hasShadow, Cond.code yX8_hasShadow cX8_hasShadow 4 (some .boolean), Cond.methodLink RX8 102 yX8_personIs, Cond.instanceMethod yX8_personIs, Cond.selects RX8 yX8_personIs yX8_personIs, Cond.code yX8_personIs cX8_personIs 3 (some .int), Cond.methodLink RX8 82 yX8_at, Cond.static yX8_at, Cond.code yX8_at cX8_at 2 (some .int), Cond.methodLink RX8 120 yX8_isLit, Cond.instanceMethod yX8_isLit, Cond.selects RX8 yX8_isLit yX8_isLit, Cond.code yX8_isLit cX8_isLit 2 (some .boolean), Cond.methodLink RX8 116 yX8_has, Cond.static yX8_has]
def wsX8_met_r3 : List Cond := [Cond.code yX8_has cX8_has 2 (some .boolean), Cond.methodLink RX8 123 yX8_firstOf, Cond.instanceMethod yX8_firstOf, Cond.selects RX8 yX8_firstOf yX8_firstOf, Cond.code yX8_firstOf cX8_firstOf 6 (some .int), Cond.methodLink RX8 105 Lib.Math.min.name, Cond.static Lib.Math.min.name, Cond.initialized "java/lang/Math", Cond.code Lib.Math.min.name Lib.Math.min.code 2 (some .int), Cond.methodLink RX8 110 Lib.Math.max.name, Cond.static Lib.Math.max.name, Cond.code Lib.Math.max.name Lib.Math.max.code 2 (some .int), Cond.methodLink RX8 113 yX8_claimOf, Cond.instanceMethod yX8_claimOf, Cond.selects RX8 yX8_claimOf yX8_claimOf, Cond.code yX8_claimOf cX8_claimOf 5 (some .int), Cond.methodLink RX8 156 yX8_hour, Cond.instanceMethod yX8_hour, Cond.selects RX8 yX8_hour yX8_hour, Cond.code yX8_hour cX8_hour 7 none, Cond.methodLink RX8 153 yX8_whoHave, Cond.instanceMethod yX8_whoHave, Cond.selects RX8 yX8_whoHave yX8_whoHave, Cond.code yX8_whoHave cX8_whoHave 4 (some .int)]
def wsX8_met_r4 : List Cond := [Cond.methodLink RX8 173 yX8_bits, Cond.static yX8_bits, Cond.code yX8_bits cX8_bits 3 (some .int)]
def wsX8_met : List Cond := .code yX8_met cX8_met 2 (some .int) :: ((wsX8_met_r1 ++ (wsX8_met_r2 ++ (wsX8_met_r3 ++ wsX8_met_r4))) ++ wsX80)
def wsX8_restHours : List Cond := .code yX8_restHours cX8_restHours 1 (some .int) :: ([.constant RX8 183 (65536), .fieldLink RX8 9 "SharedShadowModel" "now" "[I"] ++ wsX80)
def wsX8_cold_r1 : List Cond := [Cond.constant RX8 73 (-1000001), Cond.fieldLink RX8 163 "SharedShadowModel" "servedThen" "I", Cond.constant RX8 152 (-1000004), Cond.methodLink RX8 130 yX8_isPerson, Cond.instanceMethod yX8_isPerson, Cond.selects RX8 yX8_isPerson yX8_isPerson, Cond.initialized RX8, Cond.code yX8_isPerson cX8_isPerson 2 (some .boolean), Cond.fieldLink RX8 9 "SharedShadowModel" "now" "[I", Cond.methodLink RX8 78 yX8_within, Cond.static yX8_within, Cond.code yX8_within cX8_within 3 (some .boolean), Cond.methodLink RX8 90 yX8_finding, Cond.instanceMethod yX8_finding, Cond.selects RX8 yX8_finding yX8_finding, Cond.code yX8_finding cX8_finding 2 (some .int), Cond.fieldLink RX8 19 "SharedShadowModel" "found" "[I", Cond.methodLink RX8 179 yX8_findRest, Cond.instanceMethod yX8_findRest, Cond.selects RX8 yX8_findRest yX8_findRest, Cond.code yX8_findRest cX8_findRest 4 none, Cond.fieldLink RX8 16 "SharedShadowModel" "aside" "[I", Cond.fieldLink RX8 167 "SharedShadowModel" "shadeThen" "I", Cond.fieldLink RX8 170 "SharedShadowModel" "sunThen" "I"]
def wsX8_cold_r2 : List Cond := [Cond.fieldLink RX8 176 "SharedShadowModel" "metThen" "I", Cond.methodLink RX8 74 yX8_copyRow, Cond.static yX8_copyRow, Cond.code yX8_copyRow cX8_copyRow 3 none, Cond.methodLink RX8 133 yX8_isOver, Cond.instanceMethod yX8_isOver, Cond.selects RX8 yX8_isOver yX8_isOver, Cond.code yX8_isOver cX8_isOver 1 (some .boolean), Cond.methodLink RX8 127 yX8_hasShadow, Cond.instanceMethod yX8_hasShadow, Cond.selects RX8 yX8_hasShadow yX8_hasShadow, Cond.code yX8_hasShadow cX8_hasShadow 4 (some .boolean), Cond.methodLink RX8 102 yX8_personIs, Cond.instanceMethod yX8_personIs, Cond.selects RX8 yX8_personIs yX8_personIs, Cond.code yX8_personIs cX8_personIs 3 (some .int), Cond.methodLink RX8 82 yX8_at, Cond.static yX8_at, Cond.code yX8_at cX8_at 2 (some .int), Cond.methodLink RX8 120 yX8_isLit, Cond.instanceMethod yX8_isLit, Cond.selects RX8 yX8_isLit yX8_isLit, Cond.code yX8_isLit cX8_isLit 2 (some .boolean), Cond.methodLink RX8 116 yX8_has]
def wsX8_cold_r3 : List Cond := [Cond.static yX8_has, Cond.code yX8_has cX8_has 2 (some .boolean), Cond.methodLink RX8 123 yX8_firstOf, Cond.instanceMethod yX8_firstOf, Cond.selects RX8 yX8_firstOf yX8_firstOf, Cond.code yX8_firstOf cX8_firstOf 6 (some .int), Cond.methodLink RX8 105 Lib.Math.min.name, Cond.static Lib.Math.min.name, Cond.initialized "java/lang/Math", Cond.code Lib.Math.min.name Lib.Math.min.code 2 (some .int), Cond.methodLink RX8 110 Lib.Math.max.name, Cond.static Lib.Math.max.name, Cond.code Lib.Math.max.name Lib.Math.max.code 2 (some .int), Cond.methodLink RX8 113 yX8_claimOf, Cond.instanceMethod yX8_claimOf, Cond.selects RX8 yX8_claimOf yX8_claimOf, Cond.code yX8_claimOf cX8_claimOf 5 (some .int), Cond.methodLink RX8 156 yX8_hour, Cond.instanceMethod yX8_hour, Cond.selects RX8 yX8_hour yX8_hour, Cond.code yX8_hour cX8_hour 7 none, Cond.methodLink RX8 153 yX8_whoHave, Cond.instanceMethod yX8_whoHave, Cond.selects RX8 yX8_whoHave yX8_whoHave]
def wsX8_cold_r4 : List Cond := [Cond.code yX8_whoHave cX8_whoHave 4 (some .int), Cond.methodLink RX8 173 yX8_bits, Cond.static yX8_bits, Cond.code yX8_bits cX8_bits 3 (some .int), Cond.methodLink RX8 184 yX8_restHours, Cond.instanceMethod yX8_restHours, Cond.selects RX8 yX8_restHours yX8_restHours, Cond.code yX8_restHours cX8_restHours 1 (some .int), Cond.constant RX8 183 (65536)]
def wsX8_cold : List Cond := .code yX8_cold cX8_cold 4 (some .int) :: ((wsX8_cold_r1 ++ (wsX8_cold_r2 ++ (wsX8_cold_r3 ++ wsX8_cold_r4))) ++ wsX80)
def wsX8_shade_r1 : List Cond := [Cond.constant RX8 73 (-1000001), Cond.fieldLink RX8 167 "SharedShadowModel" "shadeThen" "I", Cond.methodLink RX8 130 yX8_isPerson, Cond.instanceMethod yX8_isPerson, Cond.selects RX8 yX8_isPerson yX8_isPerson, Cond.initialized RX8, Cond.code yX8_isPerson cX8_isPerson 2 (some .boolean), Cond.fieldLink RX8 9 "SharedShadowModel" "now" "[I", Cond.methodLink RX8 78 yX8_within, Cond.static yX8_within, Cond.code yX8_within cX8_within 3 (some .boolean), Cond.methodLink RX8 90 yX8_finding, Cond.instanceMethod yX8_finding, Cond.selects RX8 yX8_finding yX8_finding, Cond.code yX8_finding cX8_finding 2 (some .int), Cond.fieldLink RX8 19 "SharedShadowModel" "found" "[I", Cond.methodLink RX8 179 yX8_findRest, Cond.instanceMethod yX8_findRest, Cond.selects RX8 yX8_findRest yX8_findRest, Cond.code yX8_findRest cX8_findRest 4 none, Cond.fieldLink RX8 16 "SharedShadowModel" "aside" "[I", Cond.fieldLink RX8 163 "SharedShadowModel" "servedThen" "I", Cond.fieldLink RX8 170 "SharedShadowModel" "sunThen" "I", Cond.fieldLink RX8 176 "SharedShadowModel" "metThen" "I"]
def wsX8_shade_r2 : List Cond := [Cond.methodLink RX8 74 yX8_copyRow, Cond.static yX8_copyRow, Cond.code yX8_copyRow cX8_copyRow 3 none, Cond.methodLink RX8 133 yX8_isOver, Cond.instanceMethod yX8_isOver, Cond.selects RX8 yX8_isOver yX8_isOver, Cond.code yX8_isOver cX8_isOver 1 (some .boolean), Cond.methodLink RX8 127 yX8_hasShadow, Cond.instanceMethod yX8_hasShadow, Cond.selects RX8 yX8_hasShadow yX8_hasShadow, Cond.code yX8_hasShadow cX8_hasShadow 4 (some .boolean), Cond.methodLink RX8 102 yX8_personIs, Cond.instanceMethod yX8_personIs, Cond.selects RX8 yX8_personIs yX8_personIs, Cond.code yX8_personIs cX8_personIs 3 (some .int), Cond.methodLink RX8 82 yX8_at, Cond.static yX8_at, Cond.code yX8_at cX8_at 2 (some .int), Cond.methodLink RX8 120 yX8_isLit, Cond.instanceMethod yX8_isLit, Cond.selects RX8 yX8_isLit yX8_isLit, Cond.code yX8_isLit cX8_isLit 2 (some .boolean), Cond.methodLink RX8 116 yX8_has, Cond.static yX8_has]
def wsX8_shade_r3 : List Cond := [Cond.code yX8_has cX8_has 2 (some .boolean), Cond.methodLink RX8 123 yX8_firstOf, Cond.instanceMethod yX8_firstOf, Cond.selects RX8 yX8_firstOf yX8_firstOf, Cond.code yX8_firstOf cX8_firstOf 6 (some .int), Cond.methodLink RX8 105 Lib.Math.min.name, Cond.static Lib.Math.min.name, Cond.initialized "java/lang/Math", Cond.code Lib.Math.min.name Lib.Math.min.code 2 (some .int), Cond.methodLink RX8 110 Lib.Math.max.name, Cond.static Lib.Math.max.name, Cond.code Lib.Math.max.name Lib.Math.max.code 2 (some .int), Cond.methodLink RX8 113 yX8_claimOf, Cond.instanceMethod yX8_claimOf, Cond.selects RX8 yX8_claimOf yX8_claimOf, Cond.code yX8_claimOf cX8_claimOf 5 (some .int), Cond.methodLink RX8 156 yX8_hour, Cond.instanceMethod yX8_hour, Cond.selects RX8 yX8_hour yX8_hour, Cond.code yX8_hour cX8_hour 7 none, Cond.methodLink RX8 153 yX8_whoHave, Cond.instanceMethod yX8_whoHave, Cond.selects RX8 yX8_whoHave yX8_whoHave, Cond.code yX8_whoHave cX8_whoHave 4 (some .int)]
def wsX8_shade_r4 : List Cond := [Cond.methodLink RX8 173 yX8_bits, Cond.static yX8_bits, Cond.code yX8_bits cX8_bits 3 (some .int)]
def wsX8_shade : List Cond := .code yX8_shade cX8_shade 2 (some .int) :: ((wsX8_shade_r1 ++ (wsX8_shade_r2 ++ (wsX8_shade_r3 ++ wsX8_shade_r4))) ++ wsX80)
def wsX8_metByAll_r1 : List Cond := [Cond.fieldLink RX8 9 "SharedShadowModel" "now" "[I", Cond.fieldLink RX8 16 "SharedShadowModel" "aside" "[I", Cond.methodLink RX8 74 yX8_copyRow, Cond.static yX8_copyRow, Cond.initialized RX8, Cond.code yX8_copyRow cX8_copyRow 3 none, Cond.methodLink RX8 160 yX8_hoursGo, Cond.instanceMethod yX8_hoursGo, Cond.selects RX8 yX8_hoursGo yX8_hoursGo, Cond.code yX8_hoursGo cX8_hoursGo 3 (some .int), Cond.methodLink RX8 156 yX8_hour, Cond.instanceMethod yX8_hour, Cond.selects RX8 yX8_hour yX8_hour, Cond.code yX8_hour cX8_hour 7 none, Cond.methodLink RX8 110 Lib.Math.max.name, Cond.static Lib.Math.max.name, Cond.initialized "java/lang/Math", Cond.code Lib.Math.max.name Lib.Math.max.code 2 (some .int), Cond.methodLink RX8 105 Lib.Math.min.name, Cond.static Lib.Math.min.name, Cond.code Lib.Math.min.name Lib.Math.min.code 2 (some .int), Cond.methodLink RX8 153 yX8_whoHave, Cond.instanceMethod yX8_whoHave, Cond.selects RX8 yX8_whoHave yX8_whoHave]
def wsX8_metByAll_r2 : List Cond := [Cond.code yX8_whoHave cX8_whoHave 4 (some .int), Cond.methodLink RX8 127 yX8_hasShadow, Cond.instanceMethod yX8_hasShadow, Cond.selects RX8 yX8_hasShadow yX8_hasShadow, Cond.code yX8_hasShadow cX8_hasShadow 4 (some .boolean), Cond.methodLink RX8 102 yX8_personIs, Cond.instanceMethod yX8_personIs, Cond.selects RX8 yX8_personIs yX8_personIs, Cond.code yX8_personIs cX8_personIs 3 (some .int), Cond.methodLink RX8 82 yX8_at, Cond.static yX8_at, Cond.code yX8_at cX8_at 2 (some .int), Cond.methodLink RX8 120 yX8_isLit, Cond.instanceMethod yX8_isLit, Cond.selects RX8 yX8_isLit yX8_isLit, Cond.code yX8_isLit cX8_isLit 2 (some .boolean), Cond.methodLink RX8 116 yX8_has, Cond.static yX8_has, Cond.code yX8_has cX8_has 2 (some .boolean), Cond.methodLink RX8 123 yX8_firstOf, Cond.instanceMethod yX8_firstOf, Cond.selects RX8 yX8_firstOf yX8_firstOf, Cond.code yX8_firstOf cX8_firstOf 6 (some .int), Cond.methodLink RX8 113 yX8_claimOf]
def wsX8_metByAll_r3 : List Cond := [Cond.instanceMethod yX8_claimOf, Cond.selects RX8 yX8_claimOf yX8_claimOf, Cond.code yX8_claimOf cX8_claimOf 5 (some .int), Cond.methodLink RX8 188 yX8_putBack, Cond.instanceMethod yX8_putBack, Cond.selects RX8 yX8_putBack yX8_putBack, Cond.code yX8_putBack cX8_putBack 2 (some .int)]
def wsX8_metByAll : List Cond := .code yX8_metByAll cX8_metByAll 1 (some .int) :: ((wsX8_metByAll_r1 ++ (wsX8_metByAll_r2 ++ wsX8_metByAll_r3)) ++ wsX80)
def wsX8_all_r1 : List Cond := [Cond.methodLink RX8 191 yX8_metByAll, Cond.instanceMethod yX8_metByAll, Cond.selects RX8 yX8_metByAll yX8_metByAll, Cond.initialized RX8, Cond.code yX8_metByAll cX8_metByAll 1 (some .int), Cond.fieldLink RX8 9 "SharedShadowModel" "now" "[I", Cond.fieldLink RX8 16 "SharedShadowModel" "aside" "[I", Cond.methodLink RX8 74 yX8_copyRow, Cond.static yX8_copyRow, Cond.code yX8_copyRow cX8_copyRow 3 none, Cond.methodLink RX8 160 yX8_hoursGo, Cond.instanceMethod yX8_hoursGo, Cond.selects RX8 yX8_hoursGo yX8_hoursGo, Cond.code yX8_hoursGo cX8_hoursGo 3 (some .int), Cond.methodLink RX8 156 yX8_hour, Cond.instanceMethod yX8_hour, Cond.selects RX8 yX8_hour yX8_hour, Cond.code yX8_hour cX8_hour 7 none, Cond.methodLink RX8 110 Lib.Math.max.name, Cond.static Lib.Math.max.name, Cond.initialized "java/lang/Math", Cond.code Lib.Math.max.name Lib.Math.max.code 2 (some .int), Cond.methodLink RX8 105 Lib.Math.min.name, Cond.static Lib.Math.min.name]
def wsX8_all_r2 : List Cond := [Cond.code Lib.Math.min.name Lib.Math.min.code 2 (some .int), Cond.methodLink RX8 153 yX8_whoHave, Cond.instanceMethod yX8_whoHave, Cond.selects RX8 yX8_whoHave yX8_whoHave, Cond.code yX8_whoHave cX8_whoHave 4 (some .int), Cond.methodLink RX8 127 yX8_hasShadow, Cond.instanceMethod yX8_hasShadow, Cond.selects RX8 yX8_hasShadow yX8_hasShadow, Cond.code yX8_hasShadow cX8_hasShadow 4 (some .boolean), Cond.methodLink RX8 102 yX8_personIs, Cond.instanceMethod yX8_personIs, Cond.selects RX8 yX8_personIs yX8_personIs, Cond.code yX8_personIs cX8_personIs 3 (some .int), Cond.methodLink RX8 82 yX8_at, Cond.static yX8_at, Cond.code yX8_at cX8_at 2 (some .int), Cond.methodLink RX8 120 yX8_isLit, Cond.instanceMethod yX8_isLit, Cond.selects RX8 yX8_isLit yX8_isLit, Cond.code yX8_isLit cX8_isLit 2 (some .boolean), Cond.methodLink RX8 116 yX8_has, Cond.static yX8_has, Cond.code yX8_has cX8_has 2 (some .boolean), Cond.methodLink RX8 123 yX8_firstOf]
def wsX8_all_r3 : List Cond := [Cond.instanceMethod yX8_firstOf, Cond.selects RX8 yX8_firstOf yX8_firstOf, Cond.code yX8_firstOf cX8_firstOf 6 (some .int), Cond.methodLink RX8 113 yX8_claimOf, Cond.instanceMethod yX8_claimOf, Cond.selects RX8 yX8_claimOf yX8_claimOf, Cond.code yX8_claimOf cX8_claimOf 5 (some .int), Cond.methodLink RX8 188 yX8_putBack, Cond.instanceMethod yX8_putBack, Cond.selects RX8 yX8_putBack yX8_putBack, Cond.code yX8_putBack cX8_putBack 2 (some .int)]
def wsX8_all : List Cond := .code yX8_all cX8_all 1 (some .int) :: ((wsX8_all_r1 ++ (wsX8_all_r2 ++ wsX8_all_r3)) ++ wsX80)
def wsX8_tan_r1 : List Cond := [Cond.constant RX8 73 (-1000001), Cond.fieldLink RX8 170 "SharedShadowModel" "sunThen" "I", Cond.methodLink RX8 130 yX8_isPerson, Cond.instanceMethod yX8_isPerson, Cond.selects RX8 yX8_isPerson yX8_isPerson, Cond.initialized RX8, Cond.code yX8_isPerson cX8_isPerson 2 (some .boolean), Cond.fieldLink RX8 9 "SharedShadowModel" "now" "[I", Cond.methodLink RX8 78 yX8_within, Cond.static yX8_within, Cond.code yX8_within cX8_within 3 (some .boolean), Cond.methodLink RX8 90 yX8_finding, Cond.instanceMethod yX8_finding, Cond.selects RX8 yX8_finding yX8_finding, Cond.code yX8_finding cX8_finding 2 (some .int), Cond.fieldLink RX8 19 "SharedShadowModel" "found" "[I", Cond.methodLink RX8 179 yX8_findRest, Cond.instanceMethod yX8_findRest, Cond.selects RX8 yX8_findRest yX8_findRest, Cond.code yX8_findRest cX8_findRest 4 none, Cond.fieldLink RX8 16 "SharedShadowModel" "aside" "[I", Cond.fieldLink RX8 163 "SharedShadowModel" "servedThen" "I", Cond.fieldLink RX8 167 "SharedShadowModel" "shadeThen" "I", Cond.fieldLink RX8 176 "SharedShadowModel" "metThen" "I"]
def wsX8_tan_r2 : List Cond := [Cond.methodLink RX8 74 yX8_copyRow, Cond.static yX8_copyRow, Cond.code yX8_copyRow cX8_copyRow 3 none, Cond.methodLink RX8 133 yX8_isOver, Cond.instanceMethod yX8_isOver, Cond.selects RX8 yX8_isOver yX8_isOver, Cond.code yX8_isOver cX8_isOver 1 (some .boolean), Cond.methodLink RX8 127 yX8_hasShadow, Cond.instanceMethod yX8_hasShadow, Cond.selects RX8 yX8_hasShadow yX8_hasShadow, Cond.code yX8_hasShadow cX8_hasShadow 4 (some .boolean), Cond.methodLink RX8 102 yX8_personIs, Cond.instanceMethod yX8_personIs, Cond.selects RX8 yX8_personIs yX8_personIs, Cond.code yX8_personIs cX8_personIs 3 (some .int), Cond.methodLink RX8 82 yX8_at, Cond.static yX8_at, Cond.code yX8_at cX8_at 2 (some .int), Cond.methodLink RX8 120 yX8_isLit, Cond.instanceMethod yX8_isLit, Cond.selects RX8 yX8_isLit yX8_isLit, Cond.code yX8_isLit cX8_isLit 2 (some .boolean), Cond.methodLink RX8 116 yX8_has, Cond.static yX8_has]
def wsX8_tan_r3 : List Cond := [Cond.code yX8_has cX8_has 2 (some .boolean), Cond.methodLink RX8 123 yX8_firstOf, Cond.instanceMethod yX8_firstOf, Cond.selects RX8 yX8_firstOf yX8_firstOf, Cond.code yX8_firstOf cX8_firstOf 6 (some .int), Cond.methodLink RX8 105 Lib.Math.min.name, Cond.static Lib.Math.min.name, Cond.initialized "java/lang/Math", Cond.code Lib.Math.min.name Lib.Math.min.code 2 (some .int), Cond.methodLink RX8 110 Lib.Math.max.name, Cond.static Lib.Math.max.name, Cond.code Lib.Math.max.name Lib.Math.max.code 2 (some .int), Cond.methodLink RX8 113 yX8_claimOf, Cond.instanceMethod yX8_claimOf, Cond.selects RX8 yX8_claimOf yX8_claimOf, Cond.code yX8_claimOf cX8_claimOf 5 (some .int), Cond.methodLink RX8 156 yX8_hour, Cond.instanceMethod yX8_hour, Cond.selects RX8 yX8_hour yX8_hour, Cond.code yX8_hour cX8_hour 7 none, Cond.methodLink RX8 153 yX8_whoHave, Cond.instanceMethod yX8_whoHave, Cond.selects RX8 yX8_whoHave yX8_whoHave, Cond.code yX8_whoHave cX8_whoHave 4 (some .int)]
def wsX8_tan_r4 : List Cond := [Cond.methodLink RX8 173 yX8_bits, Cond.static yX8_bits, Cond.code yX8_bits cX8_bits 3 (some .int)]
def wsX8_tan : List Cond := .code yX8_tan cX8_tan 2 (some .int) :: ((wsX8_tan_r1 ++ (wsX8_tan_r2 ++ (wsX8_tan_r3 ++ wsX8_tan_r4))) ++ wsX80)
def wsX8_strong_r1 : List Cond := [Cond.constant RX8 73 (-1000001), Cond.fieldLink RX8 9 "SharedShadowModel" "now" "[I", Cond.fieldLink RX8 163 "SharedShadowModel" "servedThen" "I", Cond.constant RX8 152 (-1000004), Cond.methodLink RX8 130 yX8_isPerson, Cond.instanceMethod yX8_isPerson, Cond.selects RX8 yX8_isPerson yX8_isPerson, Cond.initialized RX8, Cond.code yX8_isPerson cX8_isPerson 2 (some .boolean), Cond.methodLink RX8 78 yX8_within, Cond.static yX8_within, Cond.code yX8_within cX8_within 3 (some .boolean), Cond.methodLink RX8 90 yX8_finding, Cond.instanceMethod yX8_finding, Cond.selects RX8 yX8_finding yX8_finding, Cond.code yX8_finding cX8_finding 2 (some .int), Cond.fieldLink RX8 19 "SharedShadowModel" "found" "[I", Cond.methodLink RX8 102 yX8_personIs, Cond.instanceMethod yX8_personIs, Cond.selects RX8 yX8_personIs yX8_personIs, Cond.code yX8_personIs cX8_personIs 3 (some .int), Cond.methodLink RX8 82 yX8_at, Cond.static yX8_at, Cond.code yX8_at cX8_at 2 (some .int)]
def wsX8_strong_r2 : List Cond := [Cond.methodLink RX8 179 yX8_findRest, Cond.instanceMethod yX8_findRest, Cond.selects RX8 yX8_findRest yX8_findRest, Cond.code yX8_findRest cX8_findRest 4 none, Cond.fieldLink RX8 16 "SharedShadowModel" "aside" "[I", Cond.fieldLink RX8 167 "SharedShadowModel" "shadeThen" "I", Cond.fieldLink RX8 170 "SharedShadowModel" "sunThen" "I", Cond.fieldLink RX8 176 "SharedShadowModel" "metThen" "I", Cond.methodLink RX8 74 yX8_copyRow, Cond.static yX8_copyRow, Cond.code yX8_copyRow cX8_copyRow 3 none, Cond.methodLink RX8 133 yX8_isOver, Cond.instanceMethod yX8_isOver, Cond.selects RX8 yX8_isOver yX8_isOver, Cond.code yX8_isOver cX8_isOver 1 (some .boolean), Cond.methodLink RX8 127 yX8_hasShadow, Cond.instanceMethod yX8_hasShadow, Cond.selects RX8 yX8_hasShadow yX8_hasShadow, Cond.code yX8_hasShadow cX8_hasShadow 4 (some .boolean), Cond.methodLink RX8 120 yX8_isLit, Cond.instanceMethod yX8_isLit, Cond.selects RX8 yX8_isLit yX8_isLit, Cond.code yX8_isLit cX8_isLit 2 (some .boolean), Cond.methodLink RX8 116 yX8_has]
def wsX8_strong_r3 : List Cond := [Cond.static yX8_has, Cond.code yX8_has cX8_has 2 (some .boolean), Cond.methodLink RX8 123 yX8_firstOf, Cond.instanceMethod yX8_firstOf, Cond.selects RX8 yX8_firstOf yX8_firstOf, Cond.code yX8_firstOf cX8_firstOf 6 (some .int), Cond.methodLink RX8 105 Lib.Math.min.name, Cond.static Lib.Math.min.name, Cond.initialized "java/lang/Math", Cond.code Lib.Math.min.name Lib.Math.min.code 2 (some .int), Cond.methodLink RX8 110 Lib.Math.max.name, Cond.static Lib.Math.max.name, Cond.code Lib.Math.max.name Lib.Math.max.code 2 (some .int), Cond.methodLink RX8 113 yX8_claimOf, Cond.instanceMethod yX8_claimOf, Cond.selects RX8 yX8_claimOf yX8_claimOf, Cond.code yX8_claimOf cX8_claimOf 5 (some .int), Cond.methodLink RX8 156 yX8_hour, Cond.instanceMethod yX8_hour, Cond.selects RX8 yX8_hour yX8_hour, Cond.code yX8_hour cX8_hour 7 none, Cond.methodLink RX8 153 yX8_whoHave, Cond.instanceMethod yX8_whoHave, Cond.selects RX8 yX8_whoHave yX8_whoHave]
def wsX8_strong_r4 : List Cond := [Cond.code yX8_whoHave cX8_whoHave 4 (some .int), Cond.methodLink RX8 173 yX8_bits, Cond.static yX8_bits, Cond.code yX8_bits cX8_bits 3 (some .int), Cond.methodLink RX8 184 yX8_restHours, Cond.instanceMethod yX8_restHours, Cond.selects RX8 yX8_restHours yX8_restHours, Cond.code yX8_restHours cX8_restHours 1 (some .int), Cond.constant RX8 183 (65536)]
def wsX8_strong : List Cond := .code yX8_strong cX8_strong 5 (some .int) :: ((wsX8_strong_r1 ++ (wsX8_strong_r2 ++ (wsX8_strong_r3 ++ wsX8_strong_r4))) ++ wsX80)
def wsX8_kindFor_r1 : List Cond := [Cond.constant RX8 73 (-1000001), Cond.fieldLink RX8 9 "SharedShadowModel" "now" "[I", Cond.fieldLink RX8 176 "SharedShadowModel" "metThen" "I", Cond.methodLink RX8 110 Lib.Math.max.name, Cond.static Lib.Math.max.name, Cond.initialized "java/lang/Math", Cond.code Lib.Math.max.name Lib.Math.max.code 2 (some .int), Cond.methodLink RX8 130 yX8_isPerson, Cond.instanceMethod yX8_isPerson, Cond.selects RX8 yX8_isPerson yX8_isPerson, Cond.initialized RX8, Cond.code yX8_isPerson cX8_isPerson 2 (some .boolean), Cond.methodLink RX8 78 yX8_within, Cond.static yX8_within, Cond.code yX8_within cX8_within 3 (some .boolean), Cond.methodLink RX8 90 yX8_finding, Cond.instanceMethod yX8_finding, Cond.selects RX8 yX8_finding yX8_finding, Cond.code yX8_finding cX8_finding 2 (some .int), Cond.fieldLink RX8 19 "SharedShadowModel" "found" "[I", Cond.methodLink RX8 102 yX8_personIs, Cond.instanceMethod yX8_personIs, Cond.selects RX8 yX8_personIs yX8_personIs, Cond.code yX8_personIs cX8_personIs 3 (some .int)]
def wsX8_kindFor_r2 : List Cond := [Cond.methodLink RX8 82 yX8_at, Cond.static yX8_at, Cond.code yX8_at cX8_at 2 (some .int), Cond.methodLink RX8 179 yX8_findRest, Cond.instanceMethod yX8_findRest, Cond.selects RX8 yX8_findRest yX8_findRest, Cond.code yX8_findRest cX8_findRest 4 none, Cond.fieldLink RX8 16 "SharedShadowModel" "aside" "[I", Cond.fieldLink RX8 163 "SharedShadowModel" "servedThen" "I", Cond.fieldLink RX8 167 "SharedShadowModel" "shadeThen" "I", Cond.fieldLink RX8 170 "SharedShadowModel" "sunThen" "I", Cond.methodLink RX8 74 yX8_copyRow, Cond.static yX8_copyRow, Cond.code yX8_copyRow cX8_copyRow 3 none, Cond.methodLink RX8 133 yX8_isOver, Cond.instanceMethod yX8_isOver, Cond.selects RX8 yX8_isOver yX8_isOver, Cond.code yX8_isOver cX8_isOver 1 (some .boolean), Cond.methodLink RX8 127 yX8_hasShadow, Cond.instanceMethod yX8_hasShadow, Cond.selects RX8 yX8_hasShadow yX8_hasShadow, Cond.code yX8_hasShadow cX8_hasShadow 4 (some .boolean), Cond.methodLink RX8 120 yX8_isLit, Cond.instanceMethod yX8_isLit]
def wsX8_kindFor_r3 : List Cond := [Cond.selects RX8 yX8_isLit yX8_isLit, Cond.code yX8_isLit cX8_isLit 2 (some .boolean), Cond.methodLink RX8 116 yX8_has, Cond.static yX8_has, Cond.code yX8_has cX8_has 2 (some .boolean), Cond.methodLink RX8 123 yX8_firstOf, Cond.instanceMethod yX8_firstOf, Cond.selects RX8 yX8_firstOf yX8_firstOf, Cond.code yX8_firstOf cX8_firstOf 6 (some .int), Cond.methodLink RX8 105 Lib.Math.min.name, Cond.static Lib.Math.min.name, Cond.code Lib.Math.min.name Lib.Math.min.code 2 (some .int), Cond.methodLink RX8 113 yX8_claimOf, Cond.instanceMethod yX8_claimOf, Cond.selects RX8 yX8_claimOf yX8_claimOf, Cond.code yX8_claimOf cX8_claimOf 5 (some .int), Cond.methodLink RX8 156 yX8_hour, Cond.instanceMethod yX8_hour, Cond.selects RX8 yX8_hour yX8_hour, Cond.code yX8_hour cX8_hour 7 none, Cond.methodLink RX8 153 yX8_whoHave, Cond.instanceMethod yX8_whoHave, Cond.selects RX8 yX8_whoHave yX8_whoHave, Cond.code yX8_whoHave cX8_whoHave 4 (some .int)]
def wsX8_kindFor_r4 : List Cond := [Cond.methodLink RX8 173 yX8_bits, Cond.static yX8_bits, Cond.code yX8_bits cX8_bits 3 (some .int)]
def wsX8_kindFor : List Cond := .code yX8_kindFor cX8_kindFor 6 (some .int) :: ((wsX8_kindFor_r1 ++ (wsX8_kindFor_r2 ++ (wsX8_kindFor_r3 ++ wsX8_kindFor_r4))) ++ wsX80)
def wsX8_cloud_r1 : List Cond := [Cond.fieldLink RX8 9 "SharedShadowModel" "now" "[I", Cond.methodLink RX8 110 Lib.Math.max.name, Cond.static Lib.Math.max.name, Cond.initialized "java/lang/Math", Cond.code Lib.Math.max.name Lib.Math.max.code 2 (some .int), Cond.methodLink RX8 191 yX8_metByAll, Cond.instanceMethod yX8_metByAll, Cond.selects RX8 yX8_metByAll yX8_metByAll, Cond.initialized RX8, Cond.code yX8_metByAll cX8_metByAll 1 (some .int), Cond.fieldLink RX8 16 "SharedShadowModel" "aside" "[I", Cond.methodLink RX8 74 yX8_copyRow, Cond.static yX8_copyRow, Cond.code yX8_copyRow cX8_copyRow 3 none, Cond.methodLink RX8 160 yX8_hoursGo, Cond.instanceMethod yX8_hoursGo, Cond.selects RX8 yX8_hoursGo yX8_hoursGo, Cond.code yX8_hoursGo cX8_hoursGo 3 (some .int), Cond.methodLink RX8 156 yX8_hour, Cond.instanceMethod yX8_hour, Cond.selects RX8 yX8_hour yX8_hour, Cond.code yX8_hour cX8_hour 7 none, Cond.methodLink RX8 105 Lib.Math.min.name, Cond.static Lib.Math.min.name]
def wsX8_cloud_r2 : List Cond := [Cond.code Lib.Math.min.name Lib.Math.min.code 2 (some .int), Cond.methodLink RX8 153 yX8_whoHave, Cond.instanceMethod yX8_whoHave, Cond.selects RX8 yX8_whoHave yX8_whoHave, Cond.code yX8_whoHave cX8_whoHave 4 (some .int), Cond.methodLink RX8 127 yX8_hasShadow, Cond.instanceMethod yX8_hasShadow, Cond.selects RX8 yX8_hasShadow yX8_hasShadow, Cond.code yX8_hasShadow cX8_hasShadow 4 (some .boolean), Cond.methodLink RX8 102 yX8_personIs, Cond.instanceMethod yX8_personIs, Cond.selects RX8 yX8_personIs yX8_personIs, Cond.code yX8_personIs cX8_personIs 3 (some .int), Cond.methodLink RX8 82 yX8_at, Cond.static yX8_at, Cond.code yX8_at cX8_at 2 (some .int), Cond.methodLink RX8 120 yX8_isLit, Cond.instanceMethod yX8_isLit, Cond.selects RX8 yX8_isLit yX8_isLit, Cond.code yX8_isLit cX8_isLit 2 (some .boolean), Cond.methodLink RX8 116 yX8_has, Cond.static yX8_has, Cond.code yX8_has cX8_has 2 (some .boolean), Cond.methodLink RX8 123 yX8_firstOf]
def wsX8_cloud_r3 : List Cond := [Cond.instanceMethod yX8_firstOf, Cond.selects RX8 yX8_firstOf yX8_firstOf, Cond.code yX8_firstOf cX8_firstOf 6 (some .int), Cond.methodLink RX8 113 yX8_claimOf, Cond.instanceMethod yX8_claimOf, Cond.selects RX8 yX8_claimOf yX8_claimOf, Cond.code yX8_claimOf cX8_claimOf 5 (some .int), Cond.methodLink RX8 188 yX8_putBack, Cond.instanceMethod yX8_putBack, Cond.selects RX8 yX8_putBack yX8_putBack, Cond.code yX8_putBack cX8_putBack 2 (some .int)]
def wsX8_cloud : List Cond := .code yX8_cloud cX8_cloud 6 (some .int) :: ((wsX8_cloud_r1 ++ (wsX8_cloud_r2 ++ wsX8_cloud_r3)) ++ wsX80)
def wsX8_mayHave : List Cond := .code yX8_mayHave cX8_mayHave 7 (some .boolean) :: ([.methodLink RX8 102 yX8_personIs, .instanceMethod yX8_personIs, .selects RX8 yX8_personIs yX8_personIs, .initialized RX8, .code yX8_personIs cX8_personIs 3 (some .int), .fieldLink RX8 9 "SharedShadowModel" "now" "[I", .methodLink RX8 82 yX8_at, .static yX8_at, .code yX8_at cX8_at 2 (some .int), .methodLink RX8 116 yX8_has, .static yX8_has, .code yX8_has cX8_has 2 (some .boolean)] ++ wsX80)
def wsX8_changesWith : List Cond := .code yX8_changesWith cX8_changesWith 4 (some .int) :: ([.fieldLink RX8 22 "SharedShadowModel" "fewest" "[I"] ++ wsX80)
def wsX8_findAgreement_r1 : List Cond := [Cond.fieldLink RX8 22 "SharedShadowModel" "fewest" "[I", Cond.fieldLink RX8 9 "SharedShadowModel" "now" "[I", Cond.constant RX8 194 (1000000), Cond.methodLink RX8 105 Lib.Math.min.name, Cond.static Lib.Math.min.name, Cond.initialized "java/lang/Math", Cond.code Lib.Math.min.name Lib.Math.min.code 2 (some .int), Cond.methodLink RX8 120 yX8_isLit, Cond.instanceMethod yX8_isLit, Cond.selects RX8 yX8_isLit yX8_isLit, Cond.initialized RX8, Cond.code yX8_isLit cX8_isLit 2 (some .boolean), Cond.methodLink RX8 116 yX8_has, Cond.static yX8_has, Cond.code yX8_has cX8_has 2 (some .boolean), Cond.methodLink RX8 195 yX8_mayHave, Cond.instanceMethod yX8_mayHave, Cond.selects RX8 yX8_mayHave yX8_mayHave, Cond.code yX8_mayHave cX8_mayHave 7 (some .boolean), Cond.methodLink RX8 102 yX8_personIs, Cond.instanceMethod yX8_personIs, Cond.selects RX8 yX8_personIs yX8_personIs, Cond.code yX8_personIs cX8_personIs 3 (some .int), Cond.methodLink RX8 82 yX8_at]
def wsX8_findAgreement_r2 : List Cond := [Cond.static yX8_at, Cond.code yX8_at cX8_at 2 (some .int), Cond.methodLink RX8 199 yX8_changesWith, Cond.instanceMethod yX8_changesWith, Cond.selects RX8 yX8_changesWith yX8_changesWith, Cond.code yX8_changesWith cX8_changesWith 4 (some .int)]
def wsX8_findAgreement : List Cond := .code yX8_findAgreement cX8_findAgreement 7 (some .int) :: ((wsX8_findAgreement_r1 ++ wsX8_findAgreement_r2) ++ wsX80)
def wsX8_needsIn : List Cond := .code yX8_needsIn cX8_needsIn 3 (some .int) :: ([.methodLink RX8 102 yX8_personIs, .instanceMethod yX8_personIs, .selects RX8 yX8_personIs yX8_personIs, .initialized RX8, .code yX8_personIs cX8_personIs 3 (some .int), .fieldLink RX8 9 "SharedShadowModel" "now" "[I", .methodLink RX8 82 yX8_at, .static yX8_at, .code yX8_at cX8_at 2 (some .int), .methodLink RX8 173 yX8_bits, .static yX8_bits, .code yX8_bits cX8_bits 3 (some .int)] ++ wsX80)
def wsX8_meets : List Cond := .code yX8_meets cX8_meets 5 (some .int) :: ([.fieldLink RX8 9 "SharedShadowModel" "now" "[I", .methodLink RX8 184 yX8_restHours, .instanceMethod yX8_restHours, .selects RX8 yX8_restHours yX8_restHours, .initialized RX8, .code yX8_restHours cX8_restHours 1 (some .int), .constant RX8 183 (65536), .methodLink RX8 102 yX8_personIs, .instanceMethod yX8_personIs, .selects RX8 yX8_personIs yX8_personIs, .code yX8_personIs cX8_personIs 3 (some .int), .methodLink RX8 82 yX8_at, .static yX8_at, .code yX8_at cX8_at 2 (some .int), .methodLink RX8 173 yX8_bits, .static yX8_bits, .code yX8_bits cX8_bits 3 (some .int), .methodLink RX8 202 yX8_needsIn, .instanceMethod yX8_needsIn, .selects RX8 yX8_needsIn yX8_needsIn, .code yX8_needsIn cX8_needsIn 3 (some .int)] ++ wsX80)
def wsX8_agree_r1 : List Cond := [Cond.constant RX8 73 (-1000001), Cond.methodLink RX8 146 yX8_areTwo, Cond.instanceMethod yX8_areTwo, Cond.selects RX8 yX8_areTwo yX8_areTwo, Cond.initialized RX8, Cond.code yX8_areTwo cX8_areTwo 3 (some .boolean), Cond.methodLink RX8 130 yX8_isPerson, Cond.instanceMethod yX8_isPerson, Cond.selects RX8 yX8_isPerson yX8_isPerson, Cond.code yX8_isPerson cX8_isPerson 2 (some .boolean), Cond.fieldLink RX8 9 "SharedShadowModel" "now" "[I", Cond.methodLink RX8 78 yX8_within, Cond.static yX8_within, Cond.code yX8_within cX8_within 3 (some .boolean), Cond.methodLink RX8 205 yX8_meets, Cond.instanceMethod yX8_meets, Cond.selects RX8 yX8_meets yX8_meets, Cond.code yX8_meets cX8_meets 5 (some .int), Cond.methodLink RX8 184 yX8_restHours, Cond.instanceMethod yX8_restHours, Cond.selects RX8 yX8_restHours yX8_restHours, Cond.code yX8_restHours cX8_restHours 1 (some .int), Cond.constant RX8 183 (65536), Cond.methodLink RX8 102 yX8_personIs]
def wsX8_agree_r2 : List Cond := [Cond.instanceMethod yX8_personIs, Cond.selects RX8 yX8_personIs yX8_personIs, Cond.code yX8_personIs cX8_personIs 3 (some .int), Cond.methodLink RX8 82 yX8_at, Cond.static yX8_at, Cond.code yX8_at cX8_at 2 (some .int), Cond.methodLink RX8 173 yX8_bits, Cond.static yX8_bits, Cond.code yX8_bits cX8_bits 3 (some .int), Cond.methodLink RX8 202 yX8_needsIn, Cond.instanceMethod yX8_needsIn, Cond.selects RX8 yX8_needsIn yX8_needsIn, Cond.code yX8_needsIn cX8_needsIn 3 (some .int), Cond.methodLink RX8 90 yX8_finding, Cond.instanceMethod yX8_finding, Cond.selects RX8 yX8_finding yX8_finding, Cond.code yX8_finding cX8_finding 2 (some .int), Cond.fieldLink RX8 19 "SharedShadowModel" "found" "[I"]
def wsX8_agree : List Cond := .code yX8_agree cX8_agree 3 (some .int) :: ((wsX8_agree_r1 ++ wsX8_agree_r2) ++ wsX80)
def wsX8_changes_r1 : List Cond := [Cond.methodLink RX8 105 Lib.Math.min.name, Cond.static Lib.Math.min.name, Cond.initialized "java/lang/Math", Cond.code Lib.Math.min.name Lib.Math.min.code 2 (some .int), Cond.methodLink RX8 110 Lib.Math.max.name, Cond.static Lib.Math.max.name, Cond.code Lib.Math.max.name Lib.Math.max.code 2 (some .int), Cond.constant RX8 73 (-1000001), Cond.methodLink RX8 146 yX8_areTwo, Cond.instanceMethod yX8_areTwo, Cond.selects RX8 yX8_areTwo yX8_areTwo, Cond.initialized RX8, Cond.code yX8_areTwo cX8_areTwo 3 (some .boolean), Cond.methodLink RX8 130 yX8_isPerson, Cond.instanceMethod yX8_isPerson, Cond.selects RX8 yX8_isPerson yX8_isPerson, Cond.code yX8_isPerson cX8_isPerson 2 (some .boolean), Cond.fieldLink RX8 9 "SharedShadowModel" "now" "[I", Cond.methodLink RX8 78 yX8_within, Cond.static yX8_within, Cond.code yX8_within cX8_within 3 (some .boolean), Cond.methodLink RX8 208 yX8_findAgreement, Cond.instanceMethod yX8_findAgreement, Cond.selects RX8 yX8_findAgreement yX8_findAgreement]
def wsX8_changes_r2 : List Cond := [Cond.code yX8_findAgreement cX8_findAgreement 7 (some .int), Cond.fieldLink RX8 22 "SharedShadowModel" "fewest" "[I", Cond.constant RX8 194 (1000000), Cond.methodLink RX8 120 yX8_isLit, Cond.instanceMethod yX8_isLit, Cond.selects RX8 yX8_isLit yX8_isLit, Cond.code yX8_isLit cX8_isLit 2 (some .boolean), Cond.methodLink RX8 116 yX8_has, Cond.static yX8_has, Cond.code yX8_has cX8_has 2 (some .boolean), Cond.methodLink RX8 195 yX8_mayHave, Cond.instanceMethod yX8_mayHave, Cond.selects RX8 yX8_mayHave yX8_mayHave, Cond.code yX8_mayHave cX8_mayHave 7 (some .boolean), Cond.methodLink RX8 102 yX8_personIs, Cond.instanceMethod yX8_personIs, Cond.selects RX8 yX8_personIs yX8_personIs, Cond.code yX8_personIs cX8_personIs 3 (some .int), Cond.methodLink RX8 82 yX8_at, Cond.static yX8_at, Cond.code yX8_at cX8_at 2 (some .int), Cond.methodLink RX8 199 yX8_changesWith, Cond.instanceMethod yX8_changesWith, Cond.selects RX8 yX8_changesWith yX8_changesWith]
def wsX8_changes_r3 : List Cond := [Cond.code yX8_changesWith cX8_changesWith 4 (some .int), Cond.methodLink RX8 90 yX8_finding, Cond.instanceMethod yX8_finding, Cond.selects RX8 yX8_finding yX8_finding, Cond.code yX8_finding cX8_finding 2 (some .int), Cond.fieldLink RX8 19 "SharedShadowModel" "found" "[I"]
def wsX8_changes : List Cond := .code yX8_changes cX8_changes 3 (some .int) :: ((wsX8_changes_r1 ++ (wsX8_changes_r2 ++ wsX8_changes_r3)) ++ wsX80)
def wsX8_heldByLess_r1 : List Cond := [Cond.fieldLink RX8 9 "SharedShadowModel" "now" "[I", Cond.fieldLink RX8 22 "SharedShadowModel" "fewest" "[I", Cond.methodLink RX8 208 yX8_findAgreement, Cond.instanceMethod yX8_findAgreement, Cond.selects RX8 yX8_findAgreement yX8_findAgreement, Cond.initialized RX8, Cond.code yX8_findAgreement cX8_findAgreement 7 (some .int), Cond.constant RX8 194 (1000000), Cond.methodLink RX8 105 Lib.Math.min.name, Cond.static Lib.Math.min.name, Cond.initialized "java/lang/Math", Cond.code Lib.Math.min.name Lib.Math.min.code 2 (some .int), Cond.methodLink RX8 120 yX8_isLit, Cond.instanceMethod yX8_isLit, Cond.selects RX8 yX8_isLit yX8_isLit, Cond.code yX8_isLit cX8_isLit 2 (some .boolean), Cond.methodLink RX8 116 yX8_has, Cond.static yX8_has, Cond.code yX8_has cX8_has 2 (some .boolean), Cond.methodLink RX8 195 yX8_mayHave, Cond.instanceMethod yX8_mayHave, Cond.selects RX8 yX8_mayHave yX8_mayHave, Cond.code yX8_mayHave cX8_mayHave 7 (some .boolean), Cond.methodLink RX8 102 yX8_personIs]
def wsX8_heldByLess_r2 : List Cond := [Cond.instanceMethod yX8_personIs, Cond.selects RX8 yX8_personIs yX8_personIs, Cond.code yX8_personIs cX8_personIs 3 (some .int), Cond.methodLink RX8 82 yX8_at, Cond.static yX8_at, Cond.code yX8_at cX8_at 2 (some .int), Cond.methodLink RX8 199 yX8_changesWith, Cond.instanceMethod yX8_changesWith, Cond.selects RX8 yX8_changesWith yX8_changesWith, Cond.code yX8_changesWith cX8_changesWith 4 (some .int)]
def wsX8_heldByLess : List Cond := .code yX8_heldByLess cX8_heldByLess 7 (some .int) :: ((wsX8_heldByLess_r1 ++ wsX8_heldByLess_r2) ++ wsX80)
def wsX8_holder_r1 : List Cond := [Cond.constant RX8 73 (-1000001), Cond.fieldLink RX8 9 "SharedShadowModel" "now" "[I", Cond.constant RX8 152 (-1000004), Cond.methodLink RX8 105 Lib.Math.min.name, Cond.static Lib.Math.min.name, Cond.initialized "java/lang/Math", Cond.code Lib.Math.min.name Lib.Math.min.code 2 (some .int), Cond.methodLink RX8 110 Lib.Math.max.name, Cond.static Lib.Math.max.name, Cond.code Lib.Math.max.name Lib.Math.max.code 2 (some .int), Cond.methodLink RX8 146 yX8_areTwo, Cond.instanceMethod yX8_areTwo, Cond.selects RX8 yX8_areTwo yX8_areTwo, Cond.initialized RX8, Cond.code yX8_areTwo cX8_areTwo 3 (some .boolean), Cond.methodLink RX8 130 yX8_isPerson, Cond.instanceMethod yX8_isPerson, Cond.selects RX8 yX8_isPerson yX8_isPerson, Cond.code yX8_isPerson cX8_isPerson 2 (some .boolean), Cond.methodLink RX8 78 yX8_within, Cond.static yX8_within, Cond.code yX8_within cX8_within 3 (some .boolean), Cond.methodLink RX8 90 yX8_finding, Cond.instanceMethod yX8_finding]
def wsX8_holder_r2 : List Cond := [Cond.selects RX8 yX8_finding yX8_finding, Cond.code yX8_finding cX8_finding 2 (some .int), Cond.fieldLink RX8 19 "SharedShadowModel" "found" "[I", Cond.methodLink RX8 120 yX8_isLit, Cond.instanceMethod yX8_isLit, Cond.selects RX8 yX8_isLit yX8_isLit, Cond.code yX8_isLit cX8_isLit 2 (some .boolean), Cond.methodLink RX8 116 yX8_has, Cond.static yX8_has, Cond.code yX8_has cX8_has 2 (some .boolean), Cond.methodLink RX8 211 yX8_heldByLess, Cond.instanceMethod yX8_heldByLess, Cond.selects RX8 yX8_heldByLess yX8_heldByLess, Cond.code yX8_heldByLess cX8_heldByLess 7 (some .int), Cond.fieldLink RX8 22 "SharedShadowModel" "fewest" "[I", Cond.methodLink RX8 208 yX8_findAgreement, Cond.instanceMethod yX8_findAgreement, Cond.selects RX8 yX8_findAgreement yX8_findAgreement, Cond.code yX8_findAgreement cX8_findAgreement 7 (some .int), Cond.constant RX8 194 (1000000), Cond.methodLink RX8 195 yX8_mayHave, Cond.instanceMethod yX8_mayHave, Cond.selects RX8 yX8_mayHave yX8_mayHave, Cond.code yX8_mayHave cX8_mayHave 7 (some .boolean)]
def wsX8_holder_r3 : List Cond := [Cond.methodLink RX8 102 yX8_personIs, Cond.instanceMethod yX8_personIs, Cond.selects RX8 yX8_personIs yX8_personIs, Cond.code yX8_personIs cX8_personIs 3 (some .int), Cond.methodLink RX8 82 yX8_at, Cond.static yX8_at, Cond.code yX8_at cX8_at 2 (some .int), Cond.methodLink RX8 199 yX8_changesWith, Cond.instanceMethod yX8_changesWith, Cond.selects RX8 yX8_changesWith yX8_changesWith, Cond.code yX8_changesWith cX8_changesWith 4 (some .int)]
def wsX8_holder : List Cond := .code yX8_holder cX8_holder 6 (some .int) :: ((wsX8_holder_r1 ++ (wsX8_holder_r2 ++ wsX8_holder_r3)) ++ wsX80)
def wsX8_gain_r1 : List Cond := [Cond.constant RX8 73 (-1000001), Cond.fieldLink RX8 9 "SharedShadowModel" "now" "[I", Cond.fieldLink RX8 176 "SharedShadowModel" "metThen" "I", Cond.methodLink RX8 146 yX8_areTwo, Cond.instanceMethod yX8_areTwo, Cond.selects RX8 yX8_areTwo yX8_areTwo, Cond.initialized RX8, Cond.code yX8_areTwo cX8_areTwo 3 (some .boolean), Cond.methodLink RX8 130 yX8_isPerson, Cond.instanceMethod yX8_isPerson, Cond.selects RX8 yX8_isPerson yX8_isPerson, Cond.code yX8_isPerson cX8_isPerson 2 (some .boolean), Cond.methodLink RX8 78 yX8_within, Cond.static yX8_within, Cond.code yX8_within cX8_within 3 (some .boolean), Cond.methodLink RX8 90 yX8_finding, Cond.instanceMethod yX8_finding, Cond.selects RX8 yX8_finding yX8_finding, Cond.code yX8_finding cX8_finding 2 (some .int), Cond.fieldLink RX8 19 "SharedShadowModel" "found" "[I", Cond.methodLink RX8 102 yX8_personIs, Cond.instanceMethod yX8_personIs, Cond.selects RX8 yX8_personIs yX8_personIs, Cond.code yX8_personIs cX8_personIs 3 (some .int)]
def wsX8_gain_r2 : List Cond := [Cond.methodLink RX8 82 yX8_at, Cond.static yX8_at, Cond.code yX8_at cX8_at 2 (some .int), Cond.methodLink RX8 179 yX8_findRest, Cond.instanceMethod yX8_findRest, Cond.selects RX8 yX8_findRest yX8_findRest, Cond.code yX8_findRest cX8_findRest 4 none, Cond.fieldLink RX8 16 "SharedShadowModel" "aside" "[I", Cond.fieldLink RX8 163 "SharedShadowModel" "servedThen" "I", Cond.fieldLink RX8 167 "SharedShadowModel" "shadeThen" "I", Cond.fieldLink RX8 170 "SharedShadowModel" "sunThen" "I", Cond.methodLink RX8 74 yX8_copyRow, Cond.static yX8_copyRow, Cond.code yX8_copyRow cX8_copyRow 3 none, Cond.methodLink RX8 133 yX8_isOver, Cond.instanceMethod yX8_isOver, Cond.selects RX8 yX8_isOver yX8_isOver, Cond.code yX8_isOver cX8_isOver 1 (some .boolean), Cond.methodLink RX8 127 yX8_hasShadow, Cond.instanceMethod yX8_hasShadow, Cond.selects RX8 yX8_hasShadow yX8_hasShadow, Cond.code yX8_hasShadow cX8_hasShadow 4 (some .boolean), Cond.methodLink RX8 120 yX8_isLit, Cond.instanceMethod yX8_isLit]
def wsX8_gain_r3 : List Cond := [Cond.selects RX8 yX8_isLit yX8_isLit, Cond.code yX8_isLit cX8_isLit 2 (some .boolean), Cond.methodLink RX8 116 yX8_has, Cond.static yX8_has, Cond.code yX8_has cX8_has 2 (some .boolean), Cond.methodLink RX8 123 yX8_firstOf, Cond.instanceMethod yX8_firstOf, Cond.selects RX8 yX8_firstOf yX8_firstOf, Cond.code yX8_firstOf cX8_firstOf 6 (some .int), Cond.methodLink RX8 105 Lib.Math.min.name, Cond.static Lib.Math.min.name, Cond.initialized "java/lang/Math", Cond.code Lib.Math.min.name Lib.Math.min.code 2 (some .int), Cond.methodLink RX8 110 Lib.Math.max.name, Cond.static Lib.Math.max.name, Cond.code Lib.Math.max.name Lib.Math.max.code 2 (some .int), Cond.methodLink RX8 113 yX8_claimOf, Cond.instanceMethod yX8_claimOf, Cond.selects RX8 yX8_claimOf yX8_claimOf, Cond.code yX8_claimOf cX8_claimOf 5 (some .int), Cond.methodLink RX8 156 yX8_hour, Cond.instanceMethod yX8_hour, Cond.selects RX8 yX8_hour yX8_hour, Cond.code yX8_hour cX8_hour 7 none]
def wsX8_gain_r4 : List Cond := [Cond.methodLink RX8 153 yX8_whoHave, Cond.instanceMethod yX8_whoHave, Cond.selects RX8 yX8_whoHave yX8_whoHave, Cond.code yX8_whoHave cX8_whoHave 4 (some .int), Cond.methodLink RX8 173 yX8_bits, Cond.static yX8_bits, Cond.code yX8_bits cX8_bits 3 (some .int), Cond.methodLink RX8 205 yX8_meets, Cond.instanceMethod yX8_meets, Cond.selects RX8 yX8_meets yX8_meets, Cond.code yX8_meets cX8_meets 5 (some .int), Cond.methodLink RX8 184 yX8_restHours, Cond.instanceMethod yX8_restHours, Cond.selects RX8 yX8_restHours yX8_restHours, Cond.code yX8_restHours cX8_restHours 1 (some .int), Cond.constant RX8 183 (65536), Cond.methodLink RX8 202 yX8_needsIn, Cond.instanceMethod yX8_needsIn, Cond.selects RX8 yX8_needsIn yX8_needsIn, Cond.code yX8_needsIn cX8_needsIn 3 (some .int)]
def wsX8_gain : List Cond := .code yX8_gain cX8_gain 6 (some .int) :: ((wsX8_gain_r1 ++ (wsX8_gain_r2 ++ (wsX8_gain_r3 ++ wsX8_gain_r4))) ++ wsX80)
def wsX8_lowest : List Cond := .code yX8_lowest cX8_lowest 2 (some .int) :: ([.methodLink RX8 116 yX8_has, .static yX8_has, .initialized RX8, .code yX8_has cX8_has 2 (some .boolean)])
def wsX8_mostWith_r1 : List Cond := [Cond.fieldLink RX8 25 "SharedShadowModel" "mosts" "[I", Cond.methodLink RX8 214 yX8_lowest, Cond.static yX8_lowest, Cond.initialized RX8, Cond.code yX8_lowest cX8_lowest 2 (some .int), Cond.methodLink RX8 116 yX8_has, Cond.static yX8_has, Cond.code yX8_has cX8_has 2 (some .boolean), Cond.methodLink RX8 184 yX8_restHours, Cond.instanceMethod yX8_restHours, Cond.selects RX8 yX8_restHours yX8_restHours, Cond.code yX8_restHours cX8_restHours 1 (some .int), Cond.constant RX8 183 (65536), Cond.fieldLink RX8 9 "SharedShadowModel" "now" "[I", Cond.methodLink RX8 202 yX8_needsIn, Cond.instanceMethod yX8_needsIn, Cond.selects RX8 yX8_needsIn yX8_needsIn, Cond.code yX8_needsIn cX8_needsIn 3 (some .int), Cond.methodLink RX8 102 yX8_personIs, Cond.instanceMethod yX8_personIs, Cond.selects RX8 yX8_personIs yX8_personIs, Cond.code yX8_personIs cX8_personIs 3 (some .int), Cond.methodLink RX8 82 yX8_at, Cond.static yX8_at]
def wsX8_mostWith_r2 : List Cond := [Cond.code yX8_at cX8_at 2 (some .int), Cond.methodLink RX8 173 yX8_bits, Cond.static yX8_bits, Cond.code yX8_bits cX8_bits 3 (some .int), Cond.methodLink RX8 205 yX8_meets, Cond.instanceMethod yX8_meets, Cond.selects RX8 yX8_meets yX8_meets, Cond.code yX8_meets cX8_meets 5 (some .int)]
def wsX8_mostWith : List Cond := .code yX8_mostWith cX8_mostWith 4 (some .int) :: ((wsX8_mostWith_r1 ++ wsX8_mostWith_r2) ++ wsX80)
def wsX8_mayBe : List Cond := .code yX8_mayBe cX8_mayBe 3 (some .boolean) :: ([.methodLink RX8 116 yX8_has, .static yX8_has, .initialized RX8, .code yX8_has cX8_has 2 (some .boolean), .methodLink RX8 214 yX8_lowest, .static yX8_lowest, .code yX8_lowest cX8_lowest 2 (some .int), .methodLink RX8 173 yX8_bits, .static yX8_bits, .code yX8_bits cX8_bits 3 (some .int)])
def wsX8_findPairs_r1 : List Cond := [Cond.fieldLink RX8 25 "SharedShadowModel" "mosts" "[I", Cond.fieldLink RX8 28 "SharedShadowModel" "many" "[I", Cond.fieldLink RX8 9 "SharedShadowModel" "now" "[I", Cond.methodLink RX8 110 Lib.Math.max.name, Cond.static Lib.Math.max.name, Cond.initialized "java/lang/Math", Cond.code Lib.Math.max.name Lib.Math.max.code 2 (some .int), Cond.methodLink RX8 217 yX8_mayBe, Cond.instanceMethod yX8_mayBe, Cond.selects RX8 yX8_mayBe yX8_mayBe, Cond.initialized RX8, Cond.code yX8_mayBe cX8_mayBe 3 (some .boolean), Cond.methodLink RX8 116 yX8_has, Cond.static yX8_has, Cond.code yX8_has cX8_has 2 (some .boolean), Cond.methodLink RX8 214 yX8_lowest, Cond.static yX8_lowest, Cond.code yX8_lowest cX8_lowest 2 (some .int), Cond.methodLink RX8 173 yX8_bits, Cond.static yX8_bits, Cond.code yX8_bits cX8_bits 3 (some .int), Cond.methodLink RX8 220 yX8_mostWith, Cond.instanceMethod yX8_mostWith, Cond.selects RX8 yX8_mostWith yX8_mostWith]
def wsX8_findPairs_r2 : List Cond := [Cond.code yX8_mostWith cX8_mostWith 4 (some .int), Cond.methodLink RX8 184 yX8_restHours, Cond.instanceMethod yX8_restHours, Cond.selects RX8 yX8_restHours yX8_restHours, Cond.code yX8_restHours cX8_restHours 1 (some .int), Cond.constant RX8 183 (65536), Cond.methodLink RX8 202 yX8_needsIn, Cond.instanceMethod yX8_needsIn, Cond.selects RX8 yX8_needsIn yX8_needsIn, Cond.code yX8_needsIn cX8_needsIn 3 (some .int), Cond.methodLink RX8 102 yX8_personIs, Cond.instanceMethod yX8_personIs, Cond.selects RX8 yX8_personIs yX8_personIs, Cond.code yX8_personIs cX8_personIs 3 (some .int), Cond.methodLink RX8 82 yX8_at, Cond.static yX8_at, Cond.code yX8_at cX8_at 2 (some .int), Cond.methodLink RX8 205 yX8_meets, Cond.instanceMethod yX8_meets, Cond.selects RX8 yX8_meets yX8_meets, Cond.code yX8_meets cX8_meets 5 (some .int)]
def wsX8_findPairs : List Cond := .code yX8_findPairs cX8_findPairs 5 (some .int) :: ((wsX8_findPairs_r1 ++ wsX8_findPairs_r2) ++ wsX80)
def wsX8_pairs_r1 : List Cond := [Cond.methodLink RX8 223 yX8_findPairs, Cond.instanceMethod yX8_findPairs, Cond.selects RX8 yX8_findPairs yX8_findPairs, Cond.initialized RX8, Cond.code yX8_findPairs cX8_findPairs 5 (some .int), Cond.fieldLink RX8 25 "SharedShadowModel" "mosts" "[I", Cond.fieldLink RX8 28 "SharedShadowModel" "many" "[I", Cond.fieldLink RX8 9 "SharedShadowModel" "now" "[I", Cond.methodLink RX8 110 Lib.Math.max.name, Cond.static Lib.Math.max.name, Cond.initialized "java/lang/Math", Cond.code Lib.Math.max.name Lib.Math.max.code 2 (some .int), Cond.methodLink RX8 217 yX8_mayBe, Cond.instanceMethod yX8_mayBe, Cond.selects RX8 yX8_mayBe yX8_mayBe, Cond.code yX8_mayBe cX8_mayBe 3 (some .boolean), Cond.methodLink RX8 116 yX8_has, Cond.static yX8_has, Cond.code yX8_has cX8_has 2 (some .boolean), Cond.methodLink RX8 214 yX8_lowest, Cond.static yX8_lowest, Cond.code yX8_lowest cX8_lowest 2 (some .int), Cond.methodLink RX8 173 yX8_bits, Cond.static yX8_bits]
def wsX8_pairs_r2 : List Cond := [Cond.code yX8_bits cX8_bits 3 (some .int), Cond.methodLink RX8 220 yX8_mostWith, Cond.instanceMethod yX8_mostWith, Cond.selects RX8 yX8_mostWith yX8_mostWith, Cond.code yX8_mostWith cX8_mostWith 4 (some .int), Cond.methodLink RX8 184 yX8_restHours, Cond.instanceMethod yX8_restHours, Cond.selects RX8 yX8_restHours yX8_restHours, Cond.code yX8_restHours cX8_restHours 1 (some .int), Cond.constant RX8 183 (65536), Cond.methodLink RX8 202 yX8_needsIn, Cond.instanceMethod yX8_needsIn, Cond.selects RX8 yX8_needsIn yX8_needsIn, Cond.code yX8_needsIn cX8_needsIn 3 (some .int), Cond.methodLink RX8 102 yX8_personIs, Cond.instanceMethod yX8_personIs, Cond.selects RX8 yX8_personIs yX8_personIs, Cond.code yX8_personIs cX8_personIs 3 (some .int), Cond.methodLink RX8 82 yX8_at, Cond.static yX8_at, Cond.code yX8_at cX8_at 2 (some .int), Cond.methodLink RX8 205 yX8_meets, Cond.instanceMethod yX8_meets, Cond.selects RX8 yX8_meets yX8_meets]
def wsX8_pairs_r3 : List Cond := [Cond.code yX8_meets cX8_meets 5 (some .int)]
def wsX8_pairs : List Cond := .code yX8_pairs cX8_pairs 1 (some .int) :: ((wsX8_pairs_r1 ++ (wsX8_pairs_r2 ++ wsX8_pairs_r3)) ++ wsX80)
def wsX8_mate_r1 : List Cond := [Cond.constant RX8 73 (-1000001), Cond.fieldLink RX8 9 "SharedShadowModel" "now" "[I", Cond.fieldLink RX8 25 "SharedShadowModel" "mosts" "[I", Cond.methodLink RX8 130 yX8_isPerson, Cond.instanceMethod yX8_isPerson, Cond.selects RX8 yX8_isPerson yX8_isPerson, Cond.initialized RX8, Cond.code yX8_isPerson cX8_isPerson 2 (some .boolean), Cond.methodLink RX8 78 yX8_within, Cond.static yX8_within, Cond.code yX8_within cX8_within 3 (some .boolean), Cond.methodLink RX8 90 yX8_finding, Cond.instanceMethod yX8_finding, Cond.selects RX8 yX8_finding yX8_finding, Cond.code yX8_finding cX8_finding 2 (some .int), Cond.fieldLink RX8 19 "SharedShadowModel" "found" "[I", Cond.methodLink RX8 223 yX8_findPairs, Cond.instanceMethod yX8_findPairs, Cond.selects RX8 yX8_findPairs yX8_findPairs, Cond.code yX8_findPairs cX8_findPairs 5 (some .int), Cond.fieldLink RX8 28 "SharedShadowModel" "many" "[I", Cond.methodLink RX8 110 Lib.Math.max.name, Cond.static Lib.Math.max.name, Cond.initialized "java/lang/Math"]
def wsX8_mate_r2 : List Cond := [Cond.code Lib.Math.max.name Lib.Math.max.code 2 (some .int), Cond.methodLink RX8 217 yX8_mayBe, Cond.instanceMethod yX8_mayBe, Cond.selects RX8 yX8_mayBe yX8_mayBe, Cond.code yX8_mayBe cX8_mayBe 3 (some .boolean), Cond.methodLink RX8 116 yX8_has, Cond.static yX8_has, Cond.code yX8_has cX8_has 2 (some .boolean), Cond.methodLink RX8 214 yX8_lowest, Cond.static yX8_lowest, Cond.code yX8_lowest cX8_lowest 2 (some .int), Cond.methodLink RX8 173 yX8_bits, Cond.static yX8_bits, Cond.code yX8_bits cX8_bits 3 (some .int), Cond.methodLink RX8 220 yX8_mostWith, Cond.instanceMethod yX8_mostWith, Cond.selects RX8 yX8_mostWith yX8_mostWith, Cond.code yX8_mostWith cX8_mostWith 4 (some .int), Cond.methodLink RX8 184 yX8_restHours, Cond.instanceMethod yX8_restHours, Cond.selects RX8 yX8_restHours yX8_restHours, Cond.code yX8_restHours cX8_restHours 1 (some .int), Cond.constant RX8 183 (65536), Cond.methodLink RX8 202 yX8_needsIn]
def wsX8_mate_r3 : List Cond := [Cond.instanceMethod yX8_needsIn, Cond.selects RX8 yX8_needsIn yX8_needsIn, Cond.code yX8_needsIn cX8_needsIn 3 (some .int), Cond.methodLink RX8 102 yX8_personIs, Cond.instanceMethod yX8_personIs, Cond.selects RX8 yX8_personIs yX8_personIs, Cond.code yX8_personIs cX8_personIs 3 (some .int), Cond.methodLink RX8 82 yX8_at, Cond.static yX8_at, Cond.code yX8_at cX8_at 2 (some .int), Cond.methodLink RX8 205 yX8_meets, Cond.instanceMethod yX8_meets, Cond.selects RX8 yX8_meets yX8_meets, Cond.code yX8_meets cX8_meets 5 (some .int)]
def wsX8_mate : List Cond := .code yX8_mate cX8_mate 6 (some .int) :: ((wsX8_mate_r1 ++ (wsX8_mate_r2 ++ wsX8_mate_r3)) ++ wsX80)
def wsX8_ways_r1 : List Cond := [Cond.fieldLink RX8 28 "SharedShadowModel" "many" "[I", Cond.fieldLink RX8 9 "SharedShadowModel" "now" "[I", Cond.methodLink RX8 223 yX8_findPairs, Cond.instanceMethod yX8_findPairs, Cond.selects RX8 yX8_findPairs yX8_findPairs, Cond.initialized RX8, Cond.code yX8_findPairs cX8_findPairs 5 (some .int), Cond.fieldLink RX8 25 "SharedShadowModel" "mosts" "[I", Cond.methodLink RX8 110 Lib.Math.max.name, Cond.static Lib.Math.max.name, Cond.initialized "java/lang/Math", Cond.code Lib.Math.max.name Lib.Math.max.code 2 (some .int), Cond.methodLink RX8 217 yX8_mayBe, Cond.instanceMethod yX8_mayBe, Cond.selects RX8 yX8_mayBe yX8_mayBe, Cond.code yX8_mayBe cX8_mayBe 3 (some .boolean), Cond.methodLink RX8 116 yX8_has, Cond.static yX8_has, Cond.code yX8_has cX8_has 2 (some .boolean), Cond.methodLink RX8 214 yX8_lowest, Cond.static yX8_lowest, Cond.code yX8_lowest cX8_lowest 2 (some .int), Cond.methodLink RX8 173 yX8_bits, Cond.static yX8_bits]
def wsX8_ways_r2 : List Cond := [Cond.code yX8_bits cX8_bits 3 (some .int), Cond.methodLink RX8 220 yX8_mostWith, Cond.instanceMethod yX8_mostWith, Cond.selects RX8 yX8_mostWith yX8_mostWith, Cond.code yX8_mostWith cX8_mostWith 4 (some .int), Cond.methodLink RX8 184 yX8_restHours, Cond.instanceMethod yX8_restHours, Cond.selects RX8 yX8_restHours yX8_restHours, Cond.code yX8_restHours cX8_restHours 1 (some .int), Cond.constant RX8 183 (65536), Cond.methodLink RX8 202 yX8_needsIn, Cond.instanceMethod yX8_needsIn, Cond.selects RX8 yX8_needsIn yX8_needsIn, Cond.code yX8_needsIn cX8_needsIn 3 (some .int), Cond.methodLink RX8 102 yX8_personIs, Cond.instanceMethod yX8_personIs, Cond.selects RX8 yX8_personIs yX8_personIs, Cond.code yX8_personIs cX8_personIs 3 (some .int), Cond.methodLink RX8 82 yX8_at, Cond.static yX8_at, Cond.code yX8_at cX8_at 2 (some .int), Cond.methodLink RX8 205 yX8_meets, Cond.instanceMethod yX8_meets, Cond.selects RX8 yX8_meets yX8_meets]
def wsX8_ways_r3 : List Cond := [Cond.code yX8_meets cX8_meets 5 (some .int)]
def wsX8_ways : List Cond := .code yX8_ways cX8_ways 1 (some .int) :: ((wsX8_ways_r1 ++ (wsX8_ways_r2 ++ wsX8_ways_r3)) ++ wsX80)
def wsX8_wouldBreak_r1 : List Cond := [Cond.fieldLink RX8 9 "SharedShadowModel" "now" "[I", Cond.fieldLink RX8 176 "SharedShadowModel" "metThen" "I", Cond.methodLink RX8 211 yX8_heldByLess, Cond.instanceMethod yX8_heldByLess, Cond.selects RX8 yX8_heldByLess yX8_heldByLess, Cond.initialized RX8, Cond.code yX8_heldByLess cX8_heldByLess 7 (some .int), Cond.fieldLink RX8 22 "SharedShadowModel" "fewest" "[I", Cond.methodLink RX8 208 yX8_findAgreement, Cond.instanceMethod yX8_findAgreement, Cond.selects RX8 yX8_findAgreement yX8_findAgreement, Cond.code yX8_findAgreement cX8_findAgreement 7 (some .int), Cond.constant RX8 194 (1000000), Cond.methodLink RX8 105 Lib.Math.min.name, Cond.static Lib.Math.min.name, Cond.initialized "java/lang/Math", Cond.code Lib.Math.min.name Lib.Math.min.code 2 (some .int), Cond.methodLink RX8 120 yX8_isLit, Cond.instanceMethod yX8_isLit, Cond.selects RX8 yX8_isLit yX8_isLit, Cond.code yX8_isLit cX8_isLit 2 (some .boolean), Cond.methodLink RX8 116 yX8_has, Cond.static yX8_has, Cond.code yX8_has cX8_has 2 (some .boolean)]
def wsX8_wouldBreak_r2 : List Cond := [Cond.methodLink RX8 195 yX8_mayHave, Cond.instanceMethod yX8_mayHave, Cond.selects RX8 yX8_mayHave yX8_mayHave, Cond.code yX8_mayHave cX8_mayHave 7 (some .boolean), Cond.methodLink RX8 102 yX8_personIs, Cond.instanceMethod yX8_personIs, Cond.selects RX8 yX8_personIs yX8_personIs, Cond.code yX8_personIs cX8_personIs 3 (some .int), Cond.methodLink RX8 82 yX8_at, Cond.static yX8_at, Cond.code yX8_at cX8_at 2 (some .int), Cond.methodLink RX8 199 yX8_changesWith, Cond.instanceMethod yX8_changesWith, Cond.selects RX8 yX8_changesWith yX8_changesWith, Cond.code yX8_changesWith cX8_changesWith 4 (some .int), Cond.methodLink RX8 184 yX8_restHours, Cond.instanceMethod yX8_restHours, Cond.selects RX8 yX8_restHours yX8_restHours, Cond.code yX8_restHours cX8_restHours 1 (some .int), Cond.constant RX8 183 (65536), Cond.methodLink RX8 179 yX8_findRest, Cond.instanceMethod yX8_findRest, Cond.selects RX8 yX8_findRest yX8_findRest, Cond.code yX8_findRest cX8_findRest 4 none]
def wsX8_wouldBreak_r3 : List Cond := [Cond.fieldLink RX8 16 "SharedShadowModel" "aside" "[I", Cond.fieldLink RX8 163 "SharedShadowModel" "servedThen" "I", Cond.fieldLink RX8 167 "SharedShadowModel" "shadeThen" "I", Cond.fieldLink RX8 170 "SharedShadowModel" "sunThen" "I", Cond.methodLink RX8 74 yX8_copyRow, Cond.static yX8_copyRow, Cond.code yX8_copyRow cX8_copyRow 3 none, Cond.methodLink RX8 133 yX8_isOver, Cond.instanceMethod yX8_isOver, Cond.selects RX8 yX8_isOver yX8_isOver, Cond.code yX8_isOver cX8_isOver 1 (some .boolean), Cond.methodLink RX8 127 yX8_hasShadow, Cond.instanceMethod yX8_hasShadow, Cond.selects RX8 yX8_hasShadow yX8_hasShadow, Cond.code yX8_hasShadow cX8_hasShadow 4 (some .boolean), Cond.methodLink RX8 123 yX8_firstOf, Cond.instanceMethod yX8_firstOf, Cond.selects RX8 yX8_firstOf yX8_firstOf, Cond.code yX8_firstOf cX8_firstOf 6 (some .int), Cond.methodLink RX8 110 Lib.Math.max.name, Cond.static Lib.Math.max.name, Cond.code Lib.Math.max.name Lib.Math.max.code 2 (some .int), Cond.methodLink RX8 113 yX8_claimOf, Cond.instanceMethod yX8_claimOf]
def wsX8_wouldBreak_r4 : List Cond := [Cond.selects RX8 yX8_claimOf yX8_claimOf, Cond.code yX8_claimOf cX8_claimOf 5 (some .int), Cond.methodLink RX8 156 yX8_hour, Cond.instanceMethod yX8_hour, Cond.selects RX8 yX8_hour yX8_hour, Cond.code yX8_hour cX8_hour 7 none, Cond.methodLink RX8 153 yX8_whoHave, Cond.instanceMethod yX8_whoHave, Cond.selects RX8 yX8_whoHave yX8_whoHave, Cond.code yX8_whoHave cX8_whoHave 4 (some .int), Cond.methodLink RX8 173 yX8_bits, Cond.static yX8_bits, Cond.code yX8_bits cX8_bits 3 (some .int), Cond.methodLink RX8 202 yX8_needsIn, Cond.instanceMethod yX8_needsIn, Cond.selects RX8 yX8_needsIn yX8_needsIn, Cond.code yX8_needsIn cX8_needsIn 3 (some .int)]
def wsX8_wouldBreak : List Cond := .code yX8_wouldBreak cX8_wouldBreak 7 (some .boolean) :: ((wsX8_wouldBreak_r1 ++ (wsX8_wouldBreak_r2 ++ (wsX8_wouldBreak_r3 ++ wsX8_wouldBreak_r4))) ++ wsX80)
def wsX8_broken_r1 : List Cond := [Cond.fieldLink RX8 9 "SharedShadowModel" "now" "[I", Cond.constant RX8 152 (-1000004), Cond.methodLink RX8 102 yX8_personIs, Cond.instanceMethod yX8_personIs, Cond.selects RX8 yX8_personIs yX8_personIs, Cond.initialized RX8, Cond.code yX8_personIs cX8_personIs 3 (some .int), Cond.methodLink RX8 82 yX8_at, Cond.static yX8_at, Cond.code yX8_at cX8_at 2 (some .int), Cond.methodLink RX8 226 yX8_wouldBreak, Cond.instanceMethod yX8_wouldBreak, Cond.selects RX8 yX8_wouldBreak yX8_wouldBreak, Cond.code yX8_wouldBreak cX8_wouldBreak 7 (some .boolean), Cond.fieldLink RX8 176 "SharedShadowModel" "metThen" "I", Cond.methodLink RX8 211 yX8_heldByLess, Cond.instanceMethod yX8_heldByLess, Cond.selects RX8 yX8_heldByLess yX8_heldByLess, Cond.code yX8_heldByLess cX8_heldByLess 7 (some .int), Cond.fieldLink RX8 22 "SharedShadowModel" "fewest" "[I", Cond.methodLink RX8 208 yX8_findAgreement, Cond.instanceMethod yX8_findAgreement, Cond.selects RX8 yX8_findAgreement yX8_findAgreement, Cond.code yX8_findAgreement cX8_findAgreement 7 (some .int)]
def wsX8_broken_r2 : List Cond := [Cond.constant RX8 194 (1000000), Cond.methodLink RX8 105 Lib.Math.min.name, Cond.static Lib.Math.min.name, Cond.initialized "java/lang/Math", Cond.code Lib.Math.min.name Lib.Math.min.code 2 (some .int), Cond.methodLink RX8 120 yX8_isLit, Cond.instanceMethod yX8_isLit, Cond.selects RX8 yX8_isLit yX8_isLit, Cond.code yX8_isLit cX8_isLit 2 (some .boolean), Cond.methodLink RX8 116 yX8_has, Cond.static yX8_has, Cond.code yX8_has cX8_has 2 (some .boolean), Cond.methodLink RX8 195 yX8_mayHave, Cond.instanceMethod yX8_mayHave, Cond.selects RX8 yX8_mayHave yX8_mayHave, Cond.code yX8_mayHave cX8_mayHave 7 (some .boolean), Cond.methodLink RX8 199 yX8_changesWith, Cond.instanceMethod yX8_changesWith, Cond.selects RX8 yX8_changesWith yX8_changesWith, Cond.code yX8_changesWith cX8_changesWith 4 (some .int), Cond.methodLink RX8 184 yX8_restHours, Cond.instanceMethod yX8_restHours, Cond.selects RX8 yX8_restHours yX8_restHours, Cond.code yX8_restHours cX8_restHours 1 (some .int)]
def wsX8_broken_r3 : List Cond := [Cond.constant RX8 183 (65536), Cond.methodLink RX8 179 yX8_findRest, Cond.instanceMethod yX8_findRest, Cond.selects RX8 yX8_findRest yX8_findRest, Cond.code yX8_findRest cX8_findRest 4 none, Cond.fieldLink RX8 16 "SharedShadowModel" "aside" "[I", Cond.fieldLink RX8 163 "SharedShadowModel" "servedThen" "I", Cond.fieldLink RX8 167 "SharedShadowModel" "shadeThen" "I", Cond.fieldLink RX8 170 "SharedShadowModel" "sunThen" "I", Cond.methodLink RX8 74 yX8_copyRow, Cond.static yX8_copyRow, Cond.code yX8_copyRow cX8_copyRow 3 none, Cond.methodLink RX8 133 yX8_isOver, Cond.instanceMethod yX8_isOver, Cond.selects RX8 yX8_isOver yX8_isOver, Cond.code yX8_isOver cX8_isOver 1 (some .boolean), Cond.methodLink RX8 127 yX8_hasShadow, Cond.instanceMethod yX8_hasShadow, Cond.selects RX8 yX8_hasShadow yX8_hasShadow, Cond.code yX8_hasShadow cX8_hasShadow 4 (some .boolean), Cond.methodLink RX8 123 yX8_firstOf, Cond.instanceMethod yX8_firstOf, Cond.selects RX8 yX8_firstOf yX8_firstOf, Cond.code yX8_firstOf cX8_firstOf 6 (some .int)]
def wsX8_broken_r4 : List Cond := [Cond.methodLink RX8 110 Lib.Math.max.name, Cond.static Lib.Math.max.name, Cond.code Lib.Math.max.name Lib.Math.max.code 2 (some .int), Cond.methodLink RX8 113 yX8_claimOf, Cond.instanceMethod yX8_claimOf, Cond.selects RX8 yX8_claimOf yX8_claimOf, Cond.code yX8_claimOf cX8_claimOf 5 (some .int), Cond.methodLink RX8 156 yX8_hour, Cond.instanceMethod yX8_hour, Cond.selects RX8 yX8_hour yX8_hour, Cond.code yX8_hour cX8_hour 7 none, Cond.methodLink RX8 153 yX8_whoHave, Cond.instanceMethod yX8_whoHave, Cond.selects RX8 yX8_whoHave yX8_whoHave, Cond.code yX8_whoHave cX8_whoHave 4 (some .int), Cond.methodLink RX8 173 yX8_bits, Cond.static yX8_bits, Cond.code yX8_bits cX8_bits 3 (some .int), Cond.methodLink RX8 202 yX8_needsIn, Cond.instanceMethod yX8_needsIn, Cond.selects RX8 yX8_needsIn yX8_needsIn, Cond.code yX8_needsIn cX8_needsIn 3 (some .int), Cond.methodLink RX8 90 yX8_finding, Cond.instanceMethod yX8_finding]
def wsX8_broken_r5 : List Cond := [Cond.selects RX8 yX8_finding yX8_finding, Cond.code yX8_finding cX8_finding 2 (some .int), Cond.fieldLink RX8 19 "SharedShadowModel" "found" "[I", Cond.constant RX8 73 (-1000001)]
def wsX8_broken : List Cond := .code yX8_broken cX8_broken 4 (some .int) :: ((wsX8_broken_r1 ++ (wsX8_broken_r2 ++ (wsX8_broken_r3 ++ (wsX8_broken_r4 ++ wsX8_broken_r5)))) ++ wsX80)
def wsX8_isSeen_r1 : List Cond := [Cond.fieldLink RX8 9 "SharedShadowModel" "now" "[I", Cond.fieldLink RX8 16 "SharedShadowModel" "aside" "[I", Cond.fieldLink RX8 63 "SharedShadowModel" "sizes" "[I", Cond.fieldLink RX8 66 "SharedShadowModel" "numbers" "[I", Cond.methodLink RX8 74 yX8_copyRow, Cond.static yX8_copyRow, Cond.initialized RX8, Cond.code yX8_copyRow cX8_copyRow 3 none, Cond.methodLink RX8 133 yX8_isOver, Cond.instanceMethod yX8_isOver, Cond.selects RX8 yX8_isOver yX8_isOver, Cond.code yX8_isOver cX8_isOver 1 (some .boolean), Cond.methodLink RX8 153 yX8_whoHave, Cond.instanceMethod yX8_whoHave, Cond.selects RX8 yX8_whoHave yX8_whoHave, Cond.code yX8_whoHave cX8_whoHave 4 (some .int), Cond.methodLink RX8 127 yX8_hasShadow, Cond.instanceMethod yX8_hasShadow, Cond.selects RX8 yX8_hasShadow yX8_hasShadow, Cond.code yX8_hasShadow cX8_hasShadow 4 (some .boolean), Cond.methodLink RX8 102 yX8_personIs, Cond.instanceMethod yX8_personIs, Cond.selects RX8 yX8_personIs yX8_personIs, Cond.code yX8_personIs cX8_personIs 3 (some .int)]
def wsX8_isSeen_r2 : List Cond := [Cond.methodLink RX8 82 yX8_at, Cond.static yX8_at, Cond.code yX8_at cX8_at 2 (some .int), Cond.methodLink RX8 120 yX8_isLit, Cond.instanceMethod yX8_isLit, Cond.selects RX8 yX8_isLit yX8_isLit, Cond.code yX8_isLit cX8_isLit 2 (some .boolean), Cond.methodLink RX8 116 yX8_has, Cond.static yX8_has, Cond.code yX8_has cX8_has 2 (some .boolean), Cond.methodLink RX8 123 yX8_firstOf, Cond.instanceMethod yX8_firstOf, Cond.selects RX8 yX8_firstOf yX8_firstOf, Cond.code yX8_firstOf cX8_firstOf 6 (some .int), Cond.methodLink RX8 105 Lib.Math.min.name, Cond.static Lib.Math.min.name, Cond.initialized "java/lang/Math", Cond.code Lib.Math.min.name Lib.Math.min.code 2 (some .int), Cond.methodLink RX8 110 Lib.Math.max.name, Cond.static Lib.Math.max.name, Cond.code Lib.Math.max.name Lib.Math.max.code 2 (some .int), Cond.methodLink RX8 113 yX8_claimOf, Cond.instanceMethod yX8_claimOf, Cond.selects RX8 yX8_claimOf yX8_claimOf]
def wsX8_isSeen_r3 : List Cond := [Cond.code yX8_claimOf cX8_claimOf 5 (some .int), Cond.methodLink RX8 156 yX8_hour, Cond.instanceMethod yX8_hour, Cond.selects RX8 yX8_hour yX8_hour, Cond.code yX8_hour cX8_hour 7 none]
def wsX8_isSeen : List Cond := .code yX8_isSeen cX8_isSeen 4 (some .boolean) :: ((wsX8_isSeen_r1 ++ (wsX8_isSeen_r2 ++ wsX8_isSeen_r3)) ++ wsX80)
def wsX8_seenWays_r1 : List Cond := [Cond.fieldLink RX8 232 "SharedShadowModel" "mayFound" "I", Cond.fieldLink RX8 9 "SharedShadowModel" "now" "[I", Cond.methodLink RX8 229 yX8_isSeen, Cond.instanceMethod yX8_isSeen, Cond.selects RX8 yX8_isSeen yX8_isSeen, Cond.initialized RX8, Cond.code yX8_isSeen cX8_isSeen 4 (some .boolean), Cond.fieldLink RX8 16 "SharedShadowModel" "aside" "[I", Cond.fieldLink RX8 63 "SharedShadowModel" "sizes" "[I", Cond.fieldLink RX8 66 "SharedShadowModel" "numbers" "[I", Cond.methodLink RX8 74 yX8_copyRow, Cond.static yX8_copyRow, Cond.code yX8_copyRow cX8_copyRow 3 none, Cond.methodLink RX8 133 yX8_isOver, Cond.instanceMethod yX8_isOver, Cond.selects RX8 yX8_isOver yX8_isOver, Cond.code yX8_isOver cX8_isOver 1 (some .boolean), Cond.methodLink RX8 153 yX8_whoHave, Cond.instanceMethod yX8_whoHave, Cond.selects RX8 yX8_whoHave yX8_whoHave, Cond.code yX8_whoHave cX8_whoHave 4 (some .int), Cond.methodLink RX8 127 yX8_hasShadow, Cond.instanceMethod yX8_hasShadow, Cond.selects RX8 yX8_hasShadow yX8_hasShadow]
def wsX8_seenWays_r2 : List Cond := [Cond.code yX8_hasShadow cX8_hasShadow 4 (some .boolean), Cond.methodLink RX8 102 yX8_personIs, Cond.instanceMethod yX8_personIs, Cond.selects RX8 yX8_personIs yX8_personIs, Cond.code yX8_personIs cX8_personIs 3 (some .int), Cond.methodLink RX8 82 yX8_at, Cond.static yX8_at, Cond.code yX8_at cX8_at 2 (some .int), Cond.methodLink RX8 120 yX8_isLit, Cond.instanceMethod yX8_isLit, Cond.selects RX8 yX8_isLit yX8_isLit, Cond.code yX8_isLit cX8_isLit 2 (some .boolean), Cond.methodLink RX8 116 yX8_has, Cond.static yX8_has, Cond.code yX8_has cX8_has 2 (some .boolean), Cond.methodLink RX8 123 yX8_firstOf, Cond.instanceMethod yX8_firstOf, Cond.selects RX8 yX8_firstOf yX8_firstOf, Cond.code yX8_firstOf cX8_firstOf 6 (some .int), Cond.methodLink RX8 105 Lib.Math.min.name, Cond.static Lib.Math.min.name, Cond.initialized "java/lang/Math", Cond.code Lib.Math.min.name Lib.Math.min.code 2 (some .int), Cond.methodLink RX8 110 Lib.Math.max.name]
def wsX8_seenWays_r3 : List Cond := [Cond.static Lib.Math.max.name, Cond.code Lib.Math.max.name Lib.Math.max.code 2 (some .int), Cond.methodLink RX8 113 yX8_claimOf, Cond.instanceMethod yX8_claimOf, Cond.selects RX8 yX8_claimOf yX8_claimOf, Cond.code yX8_claimOf cX8_claimOf 5 (some .int), Cond.methodLink RX8 156 yX8_hour, Cond.instanceMethod yX8_hour, Cond.selects RX8 yX8_hour yX8_hour, Cond.code yX8_hour cX8_hour 7 none, Cond.methodLink RX8 214 yX8_lowest, Cond.static yX8_lowest, Cond.code yX8_lowest cX8_lowest 2 (some .int), Cond.methodLink RX8 217 yX8_mayBe, Cond.instanceMethod yX8_mayBe, Cond.selects RX8 yX8_mayBe yX8_mayBe, Cond.code yX8_mayBe cX8_mayBe 3 (some .boolean), Cond.methodLink RX8 173 yX8_bits, Cond.static yX8_bits, Cond.code yX8_bits cX8_bits 3 (some .int), Cond.methodLink RX8 235 yX8_seenWays, Cond.instanceMethod yX8_seenWays, Cond.selects RX8 yX8_seenWays yX8_seenWays]
def wsX8_seenWays : List Cond := .code yX8_seenWays cX8_seenWays 7 (some .int) :: ((wsX8_seenWays_r1 ++ (wsX8_seenWays_r2 ++ wsX8_seenWays_r3)) ++ wsX80)
def wsX8_findSeen_r1 : List Cond := [Cond.fieldLink RX8 232 "SharedShadowModel" "mayFound" "I", Cond.fieldLink RX8 9 "SharedShadowModel" "now" "[I", Cond.fieldLink RX8 31 "SharedShadowModel" "mates" "[I", Cond.methodLink RX8 102 yX8_personIs, Cond.instanceMethod yX8_personIs, Cond.selects RX8 yX8_personIs yX8_personIs, Cond.initialized RX8, Cond.code yX8_personIs cX8_personIs 3 (some .int), Cond.methodLink RX8 82 yX8_at, Cond.static yX8_at, Cond.code yX8_at cX8_at 2 (some .int), Cond.methodLink RX8 235 yX8_seenWays, Cond.instanceMethod yX8_seenWays, Cond.selects RX8 yX8_seenWays yX8_seenWays, Cond.code yX8_seenWays cX8_seenWays 7 (some .int), Cond.methodLink RX8 229 yX8_isSeen, Cond.instanceMethod yX8_isSeen, Cond.selects RX8 yX8_isSeen yX8_isSeen, Cond.code yX8_isSeen cX8_isSeen 4 (some .boolean), Cond.fieldLink RX8 16 "SharedShadowModel" "aside" "[I", Cond.fieldLink RX8 63 "SharedShadowModel" "sizes" "[I", Cond.fieldLink RX8 66 "SharedShadowModel" "numbers" "[I", Cond.methodLink RX8 74 yX8_copyRow, Cond.static yX8_copyRow]
def wsX8_findSeen_r2 : List Cond := [Cond.code yX8_copyRow cX8_copyRow 3 none, Cond.methodLink RX8 133 yX8_isOver, Cond.instanceMethod yX8_isOver, Cond.selects RX8 yX8_isOver yX8_isOver, Cond.code yX8_isOver cX8_isOver 1 (some .boolean), Cond.methodLink RX8 153 yX8_whoHave, Cond.instanceMethod yX8_whoHave, Cond.selects RX8 yX8_whoHave yX8_whoHave, Cond.code yX8_whoHave cX8_whoHave 4 (some .int), Cond.methodLink RX8 127 yX8_hasShadow, Cond.instanceMethod yX8_hasShadow, Cond.selects RX8 yX8_hasShadow yX8_hasShadow, Cond.code yX8_hasShadow cX8_hasShadow 4 (some .boolean), Cond.methodLink RX8 120 yX8_isLit, Cond.instanceMethod yX8_isLit, Cond.selects RX8 yX8_isLit yX8_isLit, Cond.code yX8_isLit cX8_isLit 2 (some .boolean), Cond.methodLink RX8 116 yX8_has, Cond.static yX8_has, Cond.code yX8_has cX8_has 2 (some .boolean), Cond.methodLink RX8 123 yX8_firstOf, Cond.instanceMethod yX8_firstOf, Cond.selects RX8 yX8_firstOf yX8_firstOf, Cond.code yX8_firstOf cX8_firstOf 6 (some .int)]
def wsX8_findSeen_r3 : List Cond := [Cond.methodLink RX8 105 Lib.Math.min.name, Cond.static Lib.Math.min.name, Cond.initialized "java/lang/Math", Cond.code Lib.Math.min.name Lib.Math.min.code 2 (some .int), Cond.methodLink RX8 110 Lib.Math.max.name, Cond.static Lib.Math.max.name, Cond.code Lib.Math.max.name Lib.Math.max.code 2 (some .int), Cond.methodLink RX8 113 yX8_claimOf, Cond.instanceMethod yX8_claimOf, Cond.selects RX8 yX8_claimOf yX8_claimOf, Cond.code yX8_claimOf cX8_claimOf 5 (some .int), Cond.methodLink RX8 156 yX8_hour, Cond.instanceMethod yX8_hour, Cond.selects RX8 yX8_hour yX8_hour, Cond.code yX8_hour cX8_hour 7 none, Cond.methodLink RX8 214 yX8_lowest, Cond.static yX8_lowest, Cond.code yX8_lowest cX8_lowest 2 (some .int), Cond.methodLink RX8 217 yX8_mayBe, Cond.instanceMethod yX8_mayBe, Cond.selects RX8 yX8_mayBe yX8_mayBe, Cond.code yX8_mayBe cX8_mayBe 3 (some .boolean), Cond.methodLink RX8 173 yX8_bits, Cond.static yX8_bits]
def wsX8_findSeen_r4 : List Cond := [Cond.code yX8_bits cX8_bits 3 (some .int)]
def wsX8_findSeen : List Cond := .code yX8_findSeen cX8_findSeen 5 (some .int) :: ((wsX8_findSeen_r1 ++ (wsX8_findSeen_r2 ++ (wsX8_findSeen_r3 ++ wsX8_findSeen_r4))) ++ wsX80)
def wsX8_isSheet : List Cond := .code yX8_isSheet cX8_isSheet 1 (some .boolean) :: ([.methodLink RX8 78 yX8_within, .static yX8_within, .initialized RX8, .code yX8_within cX8_within 3 (some .boolean)])
def wsX8_fits_r1 : List Cond := [Cond.constant RX8 73 (-1000001), Cond.fieldLink RX8 60 "SharedShadowModel" "widths" "[I", Cond.constant RX8 241 (-1000006), Cond.methodLink RX8 238 yX8_isSheet, Cond.static yX8_isSheet, Cond.initialized RX8, Cond.code yX8_isSheet cX8_isSheet 1 (some .boolean), Cond.methodLink RX8 78 yX8_within, Cond.static yX8_within, Cond.code yX8_within cX8_within 3 (some .boolean), Cond.methodLink RX8 90 yX8_finding, Cond.instanceMethod yX8_finding, Cond.selects RX8 yX8_finding yX8_finding, Cond.code yX8_finding cX8_finding 2 (some .int), Cond.fieldLink RX8 19 "SharedShadowModel" "found" "[I", Cond.methodLink RX8 242 yX8_findSeen, Cond.instanceMethod yX8_findSeen, Cond.selects RX8 yX8_findSeen yX8_findSeen, Cond.code yX8_findSeen cX8_findSeen 5 (some .int), Cond.fieldLink RX8 232 "SharedShadowModel" "mayFound" "I", Cond.fieldLink RX8 9 "SharedShadowModel" "now" "[I", Cond.fieldLink RX8 31 "SharedShadowModel" "mates" "[I", Cond.methodLink RX8 102 yX8_personIs, Cond.instanceMethod yX8_personIs]
def wsX8_fits_r2 : List Cond := [Cond.selects RX8 yX8_personIs yX8_personIs, Cond.code yX8_personIs cX8_personIs 3 (some .int), Cond.methodLink RX8 82 yX8_at, Cond.static yX8_at, Cond.code yX8_at cX8_at 2 (some .int), Cond.methodLink RX8 235 yX8_seenWays, Cond.instanceMethod yX8_seenWays, Cond.selects RX8 yX8_seenWays yX8_seenWays, Cond.code yX8_seenWays cX8_seenWays 7 (some .int), Cond.methodLink RX8 229 yX8_isSeen, Cond.instanceMethod yX8_isSeen, Cond.selects RX8 yX8_isSeen yX8_isSeen, Cond.code yX8_isSeen cX8_isSeen 4 (some .boolean), Cond.fieldLink RX8 16 "SharedShadowModel" "aside" "[I", Cond.fieldLink RX8 63 "SharedShadowModel" "sizes" "[I", Cond.fieldLink RX8 66 "SharedShadowModel" "numbers" "[I", Cond.methodLink RX8 74 yX8_copyRow, Cond.static yX8_copyRow, Cond.code yX8_copyRow cX8_copyRow 3 none, Cond.methodLink RX8 133 yX8_isOver, Cond.instanceMethod yX8_isOver, Cond.selects RX8 yX8_isOver yX8_isOver, Cond.code yX8_isOver cX8_isOver 1 (some .boolean), Cond.methodLink RX8 153 yX8_whoHave]
def wsX8_fits_r3 : List Cond := [Cond.instanceMethod yX8_whoHave, Cond.selects RX8 yX8_whoHave yX8_whoHave, Cond.code yX8_whoHave cX8_whoHave 4 (some .int), Cond.methodLink RX8 127 yX8_hasShadow, Cond.instanceMethod yX8_hasShadow, Cond.selects RX8 yX8_hasShadow yX8_hasShadow, Cond.code yX8_hasShadow cX8_hasShadow 4 (some .boolean), Cond.methodLink RX8 120 yX8_isLit, Cond.instanceMethod yX8_isLit, Cond.selects RX8 yX8_isLit yX8_isLit, Cond.code yX8_isLit cX8_isLit 2 (some .boolean), Cond.methodLink RX8 116 yX8_has, Cond.static yX8_has, Cond.code yX8_has cX8_has 2 (some .boolean), Cond.methodLink RX8 123 yX8_firstOf, Cond.instanceMethod yX8_firstOf, Cond.selects RX8 yX8_firstOf yX8_firstOf, Cond.code yX8_firstOf cX8_firstOf 6 (some .int), Cond.methodLink RX8 105 Lib.Math.min.name, Cond.static Lib.Math.min.name, Cond.initialized "java/lang/Math", Cond.code Lib.Math.min.name Lib.Math.min.code 2 (some .int), Cond.methodLink RX8 110 Lib.Math.max.name, Cond.static Lib.Math.max.name]
def wsX8_fits_r4 : List Cond := [Cond.code Lib.Math.max.name Lib.Math.max.code 2 (some .int), Cond.methodLink RX8 113 yX8_claimOf, Cond.instanceMethod yX8_claimOf, Cond.selects RX8 yX8_claimOf yX8_claimOf, Cond.code yX8_claimOf cX8_claimOf 5 (some .int), Cond.methodLink RX8 156 yX8_hour, Cond.instanceMethod yX8_hour, Cond.selects RX8 yX8_hour yX8_hour, Cond.code yX8_hour cX8_hour 7 none, Cond.methodLink RX8 214 yX8_lowest, Cond.static yX8_lowest, Cond.code yX8_lowest cX8_lowest 2 (some .int), Cond.methodLink RX8 217 yX8_mayBe, Cond.instanceMethod yX8_mayBe, Cond.selects RX8 yX8_mayBe yX8_mayBe, Cond.code yX8_mayBe cX8_mayBe 3 (some .boolean), Cond.methodLink RX8 173 yX8_bits, Cond.static yX8_bits, Cond.code yX8_bits cX8_bits 3 (some .int)]
def wsX8_fits : List Cond := .code yX8_fits cX8_fits 2 (some .int) :: ((wsX8_fits_r1 ++ (wsX8_fits_r2 ++ (wsX8_fits_r3 ++ wsX8_fits_r4))) ++ wsX80)
def wsX8_may_r1 : List Cond := [Cond.constant RX8 73 (-1000001), Cond.fieldLink RX8 60 "SharedShadowModel" "widths" "[I", Cond.constant RX8 241 (-1000006), Cond.fieldLink RX8 232 "SharedShadowModel" "mayFound" "I", Cond.methodLink RX8 238 yX8_isSheet, Cond.static yX8_isSheet, Cond.initialized RX8, Cond.code yX8_isSheet cX8_isSheet 1 (some .boolean), Cond.methodLink RX8 78 yX8_within, Cond.static yX8_within, Cond.code yX8_within cX8_within 3 (some .boolean), Cond.methodLink RX8 90 yX8_finding, Cond.instanceMethod yX8_finding, Cond.selects RX8 yX8_finding yX8_finding, Cond.code yX8_finding cX8_finding 2 (some .int), Cond.fieldLink RX8 19 "SharedShadowModel" "found" "[I", Cond.methodLink RX8 130 yX8_isPerson, Cond.instanceMethod yX8_isPerson, Cond.selects RX8 yX8_isPerson yX8_isPerson, Cond.code yX8_isPerson cX8_isPerson 2 (some .boolean), Cond.fieldLink RX8 9 "SharedShadowModel" "now" "[I", Cond.methodLink RX8 242 yX8_findSeen, Cond.instanceMethod yX8_findSeen, Cond.selects RX8 yX8_findSeen yX8_findSeen]
def wsX8_may_r2 : List Cond := [Cond.code yX8_findSeen cX8_findSeen 5 (some .int), Cond.fieldLink RX8 31 "SharedShadowModel" "mates" "[I", Cond.methodLink RX8 102 yX8_personIs, Cond.instanceMethod yX8_personIs, Cond.selects RX8 yX8_personIs yX8_personIs, Cond.code yX8_personIs cX8_personIs 3 (some .int), Cond.methodLink RX8 82 yX8_at, Cond.static yX8_at, Cond.code yX8_at cX8_at 2 (some .int), Cond.methodLink RX8 235 yX8_seenWays, Cond.instanceMethod yX8_seenWays, Cond.selects RX8 yX8_seenWays yX8_seenWays, Cond.code yX8_seenWays cX8_seenWays 7 (some .int), Cond.methodLink RX8 229 yX8_isSeen, Cond.instanceMethod yX8_isSeen, Cond.selects RX8 yX8_isSeen yX8_isSeen, Cond.code yX8_isSeen cX8_isSeen 4 (some .boolean), Cond.fieldLink RX8 16 "SharedShadowModel" "aside" "[I", Cond.fieldLink RX8 63 "SharedShadowModel" "sizes" "[I", Cond.fieldLink RX8 66 "SharedShadowModel" "numbers" "[I", Cond.methodLink RX8 74 yX8_copyRow, Cond.static yX8_copyRow, Cond.code yX8_copyRow cX8_copyRow 3 none, Cond.methodLink RX8 133 yX8_isOver]
def wsX8_may_r3 : List Cond := [Cond.instanceMethod yX8_isOver, Cond.selects RX8 yX8_isOver yX8_isOver, Cond.code yX8_isOver cX8_isOver 1 (some .boolean), Cond.methodLink RX8 153 yX8_whoHave, Cond.instanceMethod yX8_whoHave, Cond.selects RX8 yX8_whoHave yX8_whoHave, Cond.code yX8_whoHave cX8_whoHave 4 (some .int), Cond.methodLink RX8 127 yX8_hasShadow, Cond.instanceMethod yX8_hasShadow, Cond.selects RX8 yX8_hasShadow yX8_hasShadow, Cond.code yX8_hasShadow cX8_hasShadow 4 (some .boolean), Cond.methodLink RX8 120 yX8_isLit, Cond.instanceMethod yX8_isLit, Cond.selects RX8 yX8_isLit yX8_isLit, Cond.code yX8_isLit cX8_isLit 2 (some .boolean), Cond.methodLink RX8 116 yX8_has, Cond.static yX8_has, Cond.code yX8_has cX8_has 2 (some .boolean), Cond.methodLink RX8 123 yX8_firstOf, Cond.instanceMethod yX8_firstOf, Cond.selects RX8 yX8_firstOf yX8_firstOf, Cond.code yX8_firstOf cX8_firstOf 6 (some .int), Cond.methodLink RX8 105 Lib.Math.min.name, Cond.static Lib.Math.min.name]
def wsX8_may_r4 : List Cond := [Cond.initialized "java/lang/Math", Cond.code Lib.Math.min.name Lib.Math.min.code 2 (some .int), Cond.methodLink RX8 110 Lib.Math.max.name, Cond.static Lib.Math.max.name, Cond.code Lib.Math.max.name Lib.Math.max.code 2 (some .int), Cond.methodLink RX8 113 yX8_claimOf, Cond.instanceMethod yX8_claimOf, Cond.selects RX8 yX8_claimOf yX8_claimOf, Cond.code yX8_claimOf cX8_claimOf 5 (some .int), Cond.methodLink RX8 156 yX8_hour, Cond.instanceMethod yX8_hour, Cond.selects RX8 yX8_hour yX8_hour, Cond.code yX8_hour cX8_hour 7 none, Cond.methodLink RX8 214 yX8_lowest, Cond.static yX8_lowest, Cond.code yX8_lowest cX8_lowest 2 (some .int), Cond.methodLink RX8 217 yX8_mayBe, Cond.instanceMethod yX8_mayBe, Cond.selects RX8 yX8_mayBe yX8_mayBe, Cond.code yX8_mayBe cX8_mayBe 3 (some .boolean), Cond.methodLink RX8 173 yX8_bits, Cond.static yX8_bits, Cond.code yX8_bits cX8_bits 3 (some .int)]
def wsX8_may : List Cond := .code yX8_may cX8_may 3 (some .int) :: ((wsX8_may_r1 ++ (wsX8_may_r2 ++ (wsX8_may_r3 ++ wsX8_may_r4))) ++ wsX80)
def wsX8_mightOf : List Cond := .code yX8_mightOf cX8_mightOf 3 (some .int) :: ([.methodLink RX8 102 yX8_personIs, .instanceMethod yX8_personIs, .selects RX8 yX8_personIs yX8_personIs, .initialized RX8, .code yX8_personIs cX8_personIs 3 (some .int), .fieldLink RX8 9 "SharedShadowModel" "now" "[I", .methodLink RX8 82 yX8_at, .static yX8_at, .code yX8_at cX8_at 2 (some .int), .methodLink RX8 120 yX8_isLit, .instanceMethod yX8_isLit, .selects RX8 yX8_isLit yX8_isLit, .code yX8_isLit cX8_isLit 2 (some .boolean), .methodLink RX8 116 yX8_has, .static yX8_has, .code yX8_has cX8_has 2 (some .boolean)] ++ wsX80)
def wsX8_duel_r1 : List Cond := [Cond.constant RX8 73 (-1000001), Cond.methodLink RX8 105 Lib.Math.min.name, Cond.static Lib.Math.min.name, Cond.initialized "java/lang/Math", Cond.code Lib.Math.min.name Lib.Math.min.code 2 (some .int), Cond.methodLink RX8 110 Lib.Math.max.name, Cond.static Lib.Math.max.name, Cond.code Lib.Math.max.name Lib.Math.max.code 2 (some .int), Cond.methodLink RX8 146 yX8_areTwo, Cond.instanceMethod yX8_areTwo, Cond.selects RX8 yX8_areTwo yX8_areTwo, Cond.initialized RX8, Cond.code yX8_areTwo cX8_areTwo 3 (some .boolean), Cond.methodLink RX8 130 yX8_isPerson, Cond.instanceMethod yX8_isPerson, Cond.selects RX8 yX8_isPerson yX8_isPerson, Cond.code yX8_isPerson cX8_isPerson 2 (some .boolean), Cond.fieldLink RX8 9 "SharedShadowModel" "now" "[I", Cond.methodLink RX8 78 yX8_within, Cond.static yX8_within, Cond.code yX8_within cX8_within 3 (some .boolean), Cond.methodLink RX8 90 yX8_finding, Cond.instanceMethod yX8_finding, Cond.selects RX8 yX8_finding yX8_finding]
def wsX8_duel_r2 : List Cond := [Cond.code yX8_finding cX8_finding 2 (some .int), Cond.fieldLink RX8 19 "SharedShadowModel" "found" "[I", Cond.methodLink RX8 123 yX8_firstOf, Cond.instanceMethod yX8_firstOf, Cond.selects RX8 yX8_firstOf yX8_firstOf, Cond.code yX8_firstOf cX8_firstOf 6 (some .int), Cond.methodLink RX8 113 yX8_claimOf, Cond.instanceMethod yX8_claimOf, Cond.selects RX8 yX8_claimOf yX8_claimOf, Cond.code yX8_claimOf cX8_claimOf 5 (some .int), Cond.methodLink RX8 102 yX8_personIs, Cond.instanceMethod yX8_personIs, Cond.selects RX8 yX8_personIs yX8_personIs, Cond.code yX8_personIs cX8_personIs 3 (some .int), Cond.methodLink RX8 82 yX8_at, Cond.static yX8_at, Cond.code yX8_at cX8_at 2 (some .int), Cond.methodLink RX8 245 yX8_mightOf, Cond.instanceMethod yX8_mightOf, Cond.selects RX8 yX8_mightOf yX8_mightOf, Cond.code yX8_mightOf cX8_mightOf 3 (some .int), Cond.methodLink RX8 120 yX8_isLit, Cond.instanceMethod yX8_isLit, Cond.selects RX8 yX8_isLit yX8_isLit]
def wsX8_duel_r3 : List Cond := [Cond.code yX8_isLit cX8_isLit 2 (some .boolean), Cond.methodLink RX8 116 yX8_has, Cond.static yX8_has, Cond.code yX8_has cX8_has 2 (some .boolean)]
def wsX8_duel : List Cond := .code yX8_duel cX8_duel 6 (some .int) :: ((wsX8_duel_r1 ++ (wsX8_duel_r2 ++ wsX8_duel_r3)) ++ wsX80)
def wsX8_common : List Cond := .code yX8_common cX8_common 5 (some .int) :: ([])
def wsX8_lanterns : List Cond := .code yX8_lanterns cX8_lanterns 10 (some .long) :: ([.constant RX8 73 (-1000001), .methodLink RX8 78 yX8_within, .static yX8_within, .initialized RX8, .code yX8_within cX8_within 3 (some .boolean), .methodLink RX8 90 yX8_finding, .instanceMethod yX8_finding, .selects RX8 yX8_finding yX8_finding, .code yX8_finding cX8_finding 2 (some .int), .fieldLink RX8 19 "SharedShadowModel" "found" "[I", .methodLink RX8 248 yX8_common, .static yX8_common, .code yX8_common cX8_common 5 (some .int)] ++ wsX80)
def wsX8_drawn : List Cond := .code yX8_drawn cX8_drawn 1 (some .int) :: ([.fieldLink RX8 9 "SharedShadowModel" "now" "[I", .constant RX8 251 (1103515245)] ++ wsX80)
def wsX8_days_r1 : List Cond := [Cond.constant RX8 73 (-1000001), Cond.fieldLink RX8 9 "SharedShadowModel" "now" "[I", Cond.constant RX8 252 (90000), Cond.constant RX8 159 (-1000005), Cond.constant RX8 72 (65535), Cond.methodLink RX8 78 yX8_within, Cond.static yX8_within, Cond.initialized RX8, Cond.code yX8_within cX8_within 3 (some .boolean), Cond.methodLink RX8 90 yX8_finding, Cond.instanceMethod yX8_finding, Cond.selects RX8 yX8_finding yX8_finding, Cond.code yX8_finding cX8_finding 2 (some .int), Cond.fieldLink RX8 19 "SharedShadowModel" "found" "[I", Cond.methodLink RX8 253 yX8_drawn, Cond.instanceMethod yX8_drawn, Cond.selects RX8 yX8_drawn yX8_drawn, Cond.code yX8_drawn cX8_drawn 1 (some .int), Cond.constant RX8 251 (1103515245), Cond.methodLink RX8 160 yX8_hoursGo, Cond.instanceMethod yX8_hoursGo, Cond.selects RX8 yX8_hoursGo yX8_hoursGo, Cond.code yX8_hoursGo cX8_hoursGo 3 (some .int), Cond.methodLink RX8 156 yX8_hour]
def wsX8_days_r2 : List Cond := [Cond.instanceMethod yX8_hour, Cond.selects RX8 yX8_hour yX8_hour, Cond.code yX8_hour cX8_hour 7 none, Cond.methodLink RX8 110 Lib.Math.max.name, Cond.static Lib.Math.max.name, Cond.initialized "java/lang/Math", Cond.code Lib.Math.max.name Lib.Math.max.code 2 (some .int), Cond.methodLink RX8 105 Lib.Math.min.name, Cond.static Lib.Math.min.name, Cond.code Lib.Math.min.name Lib.Math.min.code 2 (some .int), Cond.methodLink RX8 153 yX8_whoHave, Cond.instanceMethod yX8_whoHave, Cond.selects RX8 yX8_whoHave yX8_whoHave, Cond.code yX8_whoHave cX8_whoHave 4 (some .int), Cond.methodLink RX8 127 yX8_hasShadow, Cond.instanceMethod yX8_hasShadow, Cond.selects RX8 yX8_hasShadow yX8_hasShadow, Cond.code yX8_hasShadow cX8_hasShadow 4 (some .boolean), Cond.methodLink RX8 102 yX8_personIs, Cond.instanceMethod yX8_personIs, Cond.selects RX8 yX8_personIs yX8_personIs, Cond.code yX8_personIs cX8_personIs 3 (some .int), Cond.methodLink RX8 82 yX8_at, Cond.static yX8_at]
def wsX8_days_r3 : List Cond := [Cond.code yX8_at cX8_at 2 (some .int), Cond.methodLink RX8 120 yX8_isLit, Cond.instanceMethod yX8_isLit, Cond.selects RX8 yX8_isLit yX8_isLit, Cond.code yX8_isLit cX8_isLit 2 (some .boolean), Cond.methodLink RX8 116 yX8_has, Cond.static yX8_has, Cond.code yX8_has cX8_has 2 (some .boolean), Cond.methodLink RX8 123 yX8_firstOf, Cond.instanceMethod yX8_firstOf, Cond.selects RX8 yX8_firstOf yX8_firstOf, Cond.code yX8_firstOf cX8_firstOf 6 (some .int), Cond.methodLink RX8 113 yX8_claimOf, Cond.instanceMethod yX8_claimOf, Cond.selects RX8 yX8_claimOf yX8_claimOf, Cond.code yX8_claimOf cX8_claimOf 5 (some .int)]
def wsX8_days : List Cond := .code yX8_days cX8_days 4 (some .int) :: ((wsX8_days_r1 ++ (wsX8_days_r2 ++ wsX8_days_r3)) ++ wsX80)
def wsX8_seed : List Cond := .code yX8_seed cX8_seed 2 (some .int) :: ([.methodLink RX8 140 yX8_become, .instanceMethod yX8_become, .selects RX8 yX8_become yX8_become, .initialized RX8, .code yX8_become cX8_become 4 (some .int), .fieldLink RX8 9 "SharedShadowModel" "now" "[I"] ++ wsX80)
def wsX8_feed : List Cond := .code yX8_feed cX8_feed 4 (some .int) :: ([.constant RX8 73 (-1000001), .fieldLink RX8 256 "SharedShadowModel" "taped" "I", .constant RX8 94 (-1000002), .fieldLink RX8 34 "SharedShadowModel" "tape" "[I", .methodLink RX8 78 yX8_within, .static yX8_within, .initialized RX8, .code yX8_within cX8_within 3 (some .boolean), .methodLink RX8 90 yX8_finding, .instanceMethod yX8_finding, .selects RX8 yX8_finding yX8_finding, .code yX8_finding cX8_finding 2 (some .int), .fieldLink RX8 19 "SharedShadowModel" "found" "[I"] ++ wsX80)
def wsX8_wipe : List Cond := .code yX8_wipe cX8_wipe 2 (some .int) :: ([.fieldLink RX8 256 "SharedShadowModel" "taped" "I"] ++ wsX80)
def wsX8_byteAt : List Cond := .code yX8_byteAt cX8_byteAt 2 (some .int) :: ([.fieldLink RX8 256 "SharedShadowModel" "taped" "I", .fieldLink RX8 34 "SharedShadowModel" "tape" "[I"] ++ wsX80)
def wsX8_next : List Cond := .code yX8_next cX8_next 2 none :: ([.fieldLink RX8 259 "SharedShadowModel" "ends" "I", .fieldLink RX8 262 "SharedShadowModel" "begins" "I", .fieldLink RX8 268 "SharedShadowModel" "value" "I", .fieldLink RX8 271 "SharedShadowModel" "sort" "I", .constant RX8 274 (100000), .methodLink RX8 105 Lib.Math.min.name, .static Lib.Math.min.name, .initialized "java/lang/Math", .code Lib.Math.min.name Lib.Math.min.code 2 (some .int), .methodLink RX8 265 yX8_byteAt, .instanceMethod yX8_byteAt, .selects RX8 yX8_byteAt yX8_byteAt, .initialized RX8, .code yX8_byteAt cX8_byteAt 2 (some .int), .fieldLink RX8 256 "SharedShadowModel" "taped" "I", .fieldLink RX8 34 "SharedShadowModel" "tape" "[I", .methodLink RX8 78 yX8_within, .static yX8_within, .code yX8_within cX8_within 3 (some .boolean)] ++ wsX80)
def wsX8_isWord_r1 : List Cond := [Cond.fieldLink RX8 271 "SharedShadowModel" "sort" "I", Cond.fieldLink RX8 259 "SharedShadowModel" "ends" "I", Cond.fieldLink RX8 262 "SharedShadowModel" "begins" "I", Cond.fieldLink RX8 34 "SharedShadowModel" "tape" "[I", Cond.methodLink RX8 275 yJ0_length_8abf5, Cond.instanceMethod yJ0_length_8abf5, Cond.selects RJ0 yJ0_length_8abf5 yJ0_length_8abf5, Cond.initialized RJ0, Cond.code yJ0_length_8abf5 cJ0_length_8abf5 1 (some .int), Cond.fieldLink RJ0 9 "java/lang/String" "value" "[B", Cond.methodLink RJ0 335 yJ0_coder_7d493, Cond.instanceMethod yJ0_coder_7d493, Cond.selects RJ0 yJ0_coder_7d493 yJ0_coder_7d493, Cond.code yJ0_coder_7d493 cJ0_coder_7d493 1 (some .byte), Cond.fieldLink RJ0 38 "java/lang/String" "COMPACT_STRINGS" "Z", Cond.fieldLink RJ0 15 "java/lang/String" "coder" "B", Cond.methodLink RX8 278 yJ0_charAt_5068e, Cond.instanceMethod yJ0_charAt_5068e, Cond.selects RJ0 yJ0_charAt_5068e yJ0_charAt_5068e, Cond.code yJ0_charAt_5068e cJ0_charAt_5068e 2 (some .char), Cond.methodLink RJ0 492 yJ0_isLatin1_aae02, Cond.instanceMethod yJ0_isLatin1_aae02, Cond.selects RJ0 yJ0_isLatin1_aae02 yJ0_isLatin1_aae02, Cond.code yJ0_isLatin1_aae02 cJ0_isLatin1_aae02 1 (some .boolean)]
def wsX8_isWord_r2 : List Cond := [Cond.methodLink RJ0 495 yJ1_charAt_3b067, Cond.static yJ1_charAt_3b067, Cond.initialized RJ1, Cond.code yJ1_charAt_3b067 cJ1_charAt_3b067 2 (some .char), Cond.methodLink RJ1 9 yJ0_checkIndex_df160, Cond.static yJ0_checkIndex_df160, Cond.code yJ0_checkIndex_df160 cJ0_checkIndex_df160 2 none, Cond.fieldLink RJ0 1053 "jdk/internal/util/Preconditions" "SIOOBE_FORMATTER" "Ljava/util/function/BiFunction;", Cond.methodLink RJ0 1059 yJ3_checkIndex_8e157, Cond.static yJ3_checkIndex_8e157, Cond.initialized RJ3, Cond.code yJ3_checkIndex_8e157 cJ3_checkIndex_8e157 3 (some .int), Cond.methodLink RJ0 498 yJ2_charAt_3b067, Cond.static yJ2_charAt_3b067, Cond.initialized RJ2, Cond.code yJ2_charAt_3b067 cJ2_charAt_3b067 2 (some .char), Cond.methodLink RJ2 67 yJ2_checkIndex_2214a, Cond.static yJ2_checkIndex_2214a, Cond.code yJ2_checkIndex_2214a cJ2_checkIndex_2214a 2 none, Cond.methodLink RJ2 48 yJ2_length_9d52b, Cond.static yJ2_length_9d52b, Cond.code yJ2_length_9d52b cJ2_length_9d52b 1 (some .int), Cond.methodLink RJ2 414 yJ0_checkIndex_df160, Cond.methodLink RJ2 71 yJ2_getChar_3b067]
def wsX8_isWord_r3 : List Cond := [Cond.static yJ2_getChar_3b067, Cond.code yJ2_getChar_3b067 cJ2_getChar_3b067 2 (some .char), Cond.fieldLink RJ2 44 "java/lang/StringUTF16" "$assertionsDisabled" "Z", Cond.fieldLink RJ2 59 "java/lang/StringUTF16" "HI_BYTE_SHIFT" "I", Cond.fieldLink RJ2 63 "java/lang/StringUTF16" "LO_BYTE_SHIFT" "I"]
def wsX8_isWord : List Cond := .code yX8_isWord cX8_isWord 4 (some .boolean) :: ((wsX8_isWord_r1 ++ (wsX8_isWord_r2 ++ wsX8_isWord_r3)) ++ wsX80)
def wsX8_must : List Cond := .code yX8_must cX8_must 2 none :: ([.fieldLink RX8 282 "SharedShadowModel" "isWrong" "Z", .methodLink RX8 286 yX8_next, .instanceMethod yX8_next, .selects RX8 yX8_next yX8_next, .initialized RX8, .code yX8_next cX8_next 2 none, .fieldLink RX8 259 "SharedShadowModel" "ends" "I", .fieldLink RX8 262 "SharedShadowModel" "begins" "I", .fieldLink RX8 268 "SharedShadowModel" "value" "I", .fieldLink RX8 271 "SharedShadowModel" "sort" "I", .constant RX8 274 (100000), .methodLink RX8 105 Lib.Math.min.name, .static Lib.Math.min.name, .initialized "java/lang/Math", .code Lib.Math.min.name Lib.Math.min.code 2 (some .int), .methodLink RX8 265 yX8_byteAt, .instanceMethod yX8_byteAt, .selects RX8 yX8_byteAt yX8_byteAt, .code yX8_byteAt cX8_byteAt 2 (some .int), .fieldLink RX8 256 "SharedShadowModel" "taped" "I", .fieldLink RX8 34 "SharedShadowModel" "tape" "[I", .methodLink RX8 78 yX8_within, .static yX8_within, .code yX8_within cX8_within 3 (some .boolean)] ++ wsX80)
def wsX8_number_r1 : List Cond := [Cond.fieldLink RX8 268 "SharedShadowModel" "value" "I", Cond.fieldLink RX8 271 "SharedShadowModel" "sort" "I", Cond.methodLink RX8 78 yX8_within, Cond.static yX8_within, Cond.initialized RX8, Cond.code yX8_within cX8_within 3 (some .boolean), Cond.methodLink RX8 289 yX8_must, Cond.instanceMethod yX8_must, Cond.selects RX8 yX8_must yX8_must, Cond.code yX8_must cX8_must 2 none, Cond.fieldLink RX8 282 "SharedShadowModel" "isWrong" "Z", Cond.methodLink RX8 286 yX8_next, Cond.instanceMethod yX8_next, Cond.selects RX8 yX8_next yX8_next, Cond.code yX8_next cX8_next 2 none, Cond.fieldLink RX8 259 "SharedShadowModel" "ends" "I", Cond.fieldLink RX8 262 "SharedShadowModel" "begins" "I", Cond.constant RX8 274 (100000), Cond.methodLink RX8 105 Lib.Math.min.name, Cond.static Lib.Math.min.name, Cond.initialized "java/lang/Math", Cond.code Lib.Math.min.name Lib.Math.min.code 2 (some .int), Cond.methodLink RX8 265 yX8_byteAt, Cond.instanceMethod yX8_byteAt]
def wsX8_number_r2 : List Cond := [Cond.selects RX8 yX8_byteAt yX8_byteAt, Cond.code yX8_byteAt cX8_byteAt 2 (some .int), Cond.fieldLink RX8 256 "SharedShadowModel" "taped" "I", Cond.fieldLink RX8 34 "SharedShadowModel" "tape" "[I"]
def wsX8_number : List Cond := .code yX8_number cX8_number 4 (some .int) :: ((wsX8_number_r1 ++ wsX8_number_r2) ++ wsX80)
def wsX8_item : List Cond := .code yX8_item cX8_item 6 none :: ([.fieldLink RX8 293 "SharedShadowModel" "itemMany" "I", .fieldLink RX8 57 "SharedShadowModel" "items" "[I"] ++ wsX80)
def wsX8_kindTold_r1 : List Cond := [Cond.fieldLink RX8 53 "SharedShadowModel" "kinds" "[Ljava/lang/String;", Cond.methodLink RX8 296 yX8_isWord, Cond.instanceMethod yX8_isWord, Cond.selects RX8 yX8_isWord yX8_isWord, Cond.initialized RX8, Cond.code yX8_isWord cX8_isWord 4 (some .boolean), Cond.fieldLink RX8 271 "SharedShadowModel" "sort" "I", Cond.fieldLink RX8 259 "SharedShadowModel" "ends" "I", Cond.fieldLink RX8 262 "SharedShadowModel" "begins" "I", Cond.fieldLink RX8 34 "SharedShadowModel" "tape" "[I", Cond.methodLink RX8 275 yJ0_length_8abf5, Cond.instanceMethod yJ0_length_8abf5, Cond.selects RJ0 yJ0_length_8abf5 yJ0_length_8abf5, Cond.initialized RJ0, Cond.code yJ0_length_8abf5 cJ0_length_8abf5 1 (some .int), Cond.fieldLink RJ0 9 "java/lang/String" "value" "[B", Cond.methodLink RJ0 335 yJ0_coder_7d493, Cond.instanceMethod yJ0_coder_7d493, Cond.selects RJ0 yJ0_coder_7d493 yJ0_coder_7d493, Cond.code yJ0_coder_7d493 cJ0_coder_7d493 1 (some .byte), Cond.fieldLink RJ0 38 "java/lang/String" "COMPACT_STRINGS" "Z", Cond.fieldLink RJ0 15 "java/lang/String" "coder" "B", Cond.methodLink RX8 278 yJ0_charAt_5068e, Cond.instanceMethod yJ0_charAt_5068e]
def wsX8_kindTold_r2 : List Cond := [Cond.selects RJ0 yJ0_charAt_5068e yJ0_charAt_5068e, Cond.code yJ0_charAt_5068e cJ0_charAt_5068e 2 (some .char), Cond.methodLink RJ0 492 yJ0_isLatin1_aae02, Cond.instanceMethod yJ0_isLatin1_aae02, Cond.selects RJ0 yJ0_isLatin1_aae02 yJ0_isLatin1_aae02, Cond.code yJ0_isLatin1_aae02 cJ0_isLatin1_aae02 1 (some .boolean), Cond.methodLink RJ0 495 yJ1_charAt_3b067, Cond.static yJ1_charAt_3b067, Cond.initialized RJ1, Cond.code yJ1_charAt_3b067 cJ1_charAt_3b067 2 (some .char), Cond.methodLink RJ1 9 yJ0_checkIndex_df160, Cond.static yJ0_checkIndex_df160, Cond.code yJ0_checkIndex_df160 cJ0_checkIndex_df160 2 none, Cond.fieldLink RJ0 1053 "jdk/internal/util/Preconditions" "SIOOBE_FORMATTER" "Ljava/util/function/BiFunction;", Cond.methodLink RJ0 1059 yJ3_checkIndex_8e157, Cond.static yJ3_checkIndex_8e157, Cond.initialized RJ3, Cond.code yJ3_checkIndex_8e157 cJ3_checkIndex_8e157 3 (some .int), Cond.methodLink RJ0 498 yJ2_charAt_3b067, Cond.static yJ2_charAt_3b067, Cond.initialized RJ2, Cond.code yJ2_charAt_3b067 cJ2_charAt_3b067 2 (some .char), Cond.methodLink RJ2 67 yJ2_checkIndex_2214a, Cond.static yJ2_checkIndex_2214a]
def wsX8_kindTold_r3 : List Cond := [Cond.code yJ2_checkIndex_2214a cJ2_checkIndex_2214a 2 none, Cond.methodLink RJ2 48 yJ2_length_9d52b, Cond.static yJ2_length_9d52b, Cond.code yJ2_length_9d52b cJ2_length_9d52b 1 (some .int), Cond.methodLink RJ2 414 yJ0_checkIndex_df160, Cond.methodLink RJ2 71 yJ2_getChar_3b067, Cond.static yJ2_getChar_3b067, Cond.code yJ2_getChar_3b067 cJ2_getChar_3b067 2 (some .char), Cond.fieldLink RJ2 44 "java/lang/StringUTF16" "$assertionsDisabled" "Z", Cond.fieldLink RJ2 59 "java/lang/StringUTF16" "HI_BYTE_SHIFT" "I", Cond.fieldLink RJ2 63 "java/lang/StringUTF16" "LO_BYTE_SHIFT" "I"]
def wsX8_kindTold : List Cond := .code yX8_kindTold cX8_kindTold 3 (some .int) :: ((wsX8_kindTold_r1 ++ (wsX8_kindTold_r2 ++ wsX8_kindTold_r3)) ++ wsX80)
def wsX8_isNext_r1 : List Cond := [Cond.fieldLink RX8 282 "SharedShadowModel" "isWrong" "Z", Cond.methodLink RX8 296 yX8_isWord, Cond.instanceMethod yX8_isWord, Cond.selects RX8 yX8_isWord yX8_isWord, Cond.initialized RX8, Cond.code yX8_isWord cX8_isWord 4 (some .boolean), Cond.fieldLink RX8 271 "SharedShadowModel" "sort" "I", Cond.fieldLink RX8 259 "SharedShadowModel" "ends" "I", Cond.fieldLink RX8 262 "SharedShadowModel" "begins" "I", Cond.fieldLink RX8 34 "SharedShadowModel" "tape" "[I", Cond.methodLink RX8 275 yJ0_length_8abf5, Cond.instanceMethod yJ0_length_8abf5, Cond.selects RJ0 yJ0_length_8abf5 yJ0_length_8abf5, Cond.initialized RJ0, Cond.code yJ0_length_8abf5 cJ0_length_8abf5 1 (some .int), Cond.fieldLink RJ0 9 "java/lang/String" "value" "[B", Cond.methodLink RJ0 335 yJ0_coder_7d493, Cond.instanceMethod yJ0_coder_7d493, Cond.selects RJ0 yJ0_coder_7d493 yJ0_coder_7d493, Cond.code yJ0_coder_7d493 cJ0_coder_7d493 1 (some .byte), Cond.fieldLink RJ0 38 "java/lang/String" "COMPACT_STRINGS" "Z", Cond.fieldLink RJ0 15 "java/lang/String" "coder" "B", Cond.methodLink RX8 278 yJ0_charAt_5068e, Cond.instanceMethod yJ0_charAt_5068e]
def wsX8_isNext_r2 : List Cond := [Cond.selects RJ0 yJ0_charAt_5068e yJ0_charAt_5068e, Cond.code yJ0_charAt_5068e cJ0_charAt_5068e 2 (some .char), Cond.methodLink RJ0 492 yJ0_isLatin1_aae02, Cond.instanceMethod yJ0_isLatin1_aae02, Cond.selects RJ0 yJ0_isLatin1_aae02 yJ0_isLatin1_aae02, Cond.code yJ0_isLatin1_aae02 cJ0_isLatin1_aae02 1 (some .boolean), Cond.methodLink RJ0 495 yJ1_charAt_3b067, Cond.static yJ1_charAt_3b067, Cond.initialized RJ1, Cond.code yJ1_charAt_3b067 cJ1_charAt_3b067 2 (some .char), Cond.methodLink RJ1 9 yJ0_checkIndex_df160, Cond.static yJ0_checkIndex_df160, Cond.code yJ0_checkIndex_df160 cJ0_checkIndex_df160 2 none, Cond.fieldLink RJ0 1053 "jdk/internal/util/Preconditions" "SIOOBE_FORMATTER" "Ljava/util/function/BiFunction;", Cond.methodLink RJ0 1059 yJ3_checkIndex_8e157, Cond.static yJ3_checkIndex_8e157, Cond.initialized RJ3, Cond.code yJ3_checkIndex_8e157 cJ3_checkIndex_8e157 3 (some .int), Cond.methodLink RJ0 498 yJ2_charAt_3b067, Cond.static yJ2_charAt_3b067, Cond.initialized RJ2, Cond.code yJ2_charAt_3b067 cJ2_charAt_3b067 2 (some .char), Cond.methodLink RJ2 67 yJ2_checkIndex_2214a, Cond.static yJ2_checkIndex_2214a]
def wsX8_isNext_r3 : List Cond := [Cond.code yJ2_checkIndex_2214a cJ2_checkIndex_2214a 2 none, Cond.methodLink RJ2 48 yJ2_length_9d52b, Cond.static yJ2_length_9d52b, Cond.code yJ2_length_9d52b cJ2_length_9d52b 1 (some .int), Cond.methodLink RJ2 414 yJ0_checkIndex_df160, Cond.methodLink RJ2 71 yJ2_getChar_3b067, Cond.static yJ2_getChar_3b067, Cond.code yJ2_getChar_3b067 cJ2_getChar_3b067 2 (some .char), Cond.fieldLink RJ2 44 "java/lang/StringUTF16" "$assertionsDisabled" "Z", Cond.fieldLink RJ2 59 "java/lang/StringUTF16" "HI_BYTE_SHIFT" "I", Cond.fieldLink RJ2 63 "java/lang/StringUTF16" "LO_BYTE_SHIFT" "I", Cond.methodLink RX8 289 yX8_must, Cond.instanceMethod yX8_must, Cond.selects RX8 yX8_must yX8_must, Cond.code yX8_must cX8_must 2 none, Cond.methodLink RX8 286 yX8_next, Cond.instanceMethod yX8_next, Cond.selects RX8 yX8_next yX8_next, Cond.code yX8_next cX8_next 2 none, Cond.fieldLink RX8 268 "SharedShadowModel" "value" "I", Cond.constant RX8 274 (100000), Cond.methodLink RX8 105 Lib.Math.min.name, Cond.static Lib.Math.min.name, Cond.initialized "java/lang/Math"]
def wsX8_isNext_r4 : List Cond := [Cond.code Lib.Math.min.name Lib.Math.min.code 2 (some .int), Cond.methodLink RX8 265 yX8_byteAt, Cond.instanceMethod yX8_byteAt, Cond.selects RX8 yX8_byteAt yX8_byteAt, Cond.code yX8_byteAt cX8_byteAt 2 (some .int), Cond.fieldLink RX8 256 "SharedShadowModel" "taped" "I", Cond.methodLink RX8 78 yX8_within, Cond.static yX8_within, Cond.code yX8_within cX8_within 3 (some .boolean)]
def wsX8_isNext : List Cond := .code yX8_isNext cX8_isNext 3 (some .boolean) :: ((wsX8_isNext_r1 ++ (wsX8_isNext_r2 ++ (wsX8_isNext_r3 ++ wsX8_isNext_r4))) ++ wsX80)
def wsX8_another_r1 : List Cond := [Cond.fieldLink RX8 262 "SharedShadowModel" "begins" "I", Cond.fieldLink RX8 282 "SharedShadowModel" "isWrong" "Z", Cond.fieldLink RX8 300 "SharedShadowModel" "personThen" "I", Cond.methodLink RX8 303 yX8_number, Cond.instanceMethod yX8_number, Cond.selects RX8 yX8_number yX8_number, Cond.initialized RX8, Cond.code yX8_number cX8_number 4 (some .int), Cond.fieldLink RX8 268 "SharedShadowModel" "value" "I", Cond.fieldLink RX8 271 "SharedShadowModel" "sort" "I", Cond.methodLink RX8 78 yX8_within, Cond.static yX8_within, Cond.code yX8_within cX8_within 3 (some .boolean), Cond.methodLink RX8 289 yX8_must, Cond.instanceMethod yX8_must, Cond.selects RX8 yX8_must yX8_must, Cond.code yX8_must cX8_must 2 none, Cond.methodLink RX8 286 yX8_next, Cond.instanceMethod yX8_next, Cond.selects RX8 yX8_next yX8_next, Cond.code yX8_next cX8_next 2 none, Cond.fieldLink RX8 259 "SharedShadowModel" "ends" "I", Cond.constant RX8 274 (100000), Cond.methodLink RX8 105 Lib.Math.min.name]
def wsX8_another_r2 : List Cond := [Cond.static Lib.Math.min.name, Cond.initialized "java/lang/Math", Cond.code Lib.Math.min.name Lib.Math.min.code 2 (some .int), Cond.methodLink RX8 265 yX8_byteAt, Cond.instanceMethod yX8_byteAt, Cond.selects RX8 yX8_byteAt yX8_byteAt, Cond.code yX8_byteAt cX8_byteAt 2 (some .int), Cond.fieldLink RX8 256 "SharedShadowModel" "taped" "I", Cond.fieldLink RX8 34 "SharedShadowModel" "tape" "[I"]
def wsX8_another : List Cond := .code yX8_another cX8_another 5 (some .int) :: ((wsX8_another_r1 ++ wsX8_another_r2) ++ wsX80)
def wsX8_readItem_r1 : List Cond := [Cond.fieldLink RX8 300 "SharedShadowModel" "personThen" "I", Cond.constant RX8 72 (65535), Cond.methodLink RX8 306 yX8_kindTold, Cond.instanceMethod yX8_kindTold, Cond.selects RX8 yX8_kindTold yX8_kindTold, Cond.initialized RX8, Cond.code yX8_kindTold cX8_kindTold 3 (some .int), Cond.fieldLink RX8 53 "SharedShadowModel" "kinds" "[Ljava/lang/String;", Cond.methodLink RX8 296 yX8_isWord, Cond.instanceMethod yX8_isWord, Cond.selects RX8 yX8_isWord yX8_isWord, Cond.code yX8_isWord cX8_isWord 4 (some .boolean), Cond.fieldLink RX8 271 "SharedShadowModel" "sort" "I", Cond.fieldLink RX8 259 "SharedShadowModel" "ends" "I", Cond.fieldLink RX8 262 "SharedShadowModel" "begins" "I", Cond.fieldLink RX8 34 "SharedShadowModel" "tape" "[I", Cond.methodLink RX8 275 yJ0_length_8abf5, Cond.instanceMethod yJ0_length_8abf5, Cond.selects RJ0 yJ0_length_8abf5 yJ0_length_8abf5, Cond.initialized RJ0, Cond.code yJ0_length_8abf5 cJ0_length_8abf5 1 (some .int), Cond.fieldLink RJ0 9 "java/lang/String" "value" "[B", Cond.methodLink RJ0 335 yJ0_coder_7d493, Cond.instanceMethod yJ0_coder_7d493]
def wsX8_readItem_r2 : List Cond := [Cond.selects RJ0 yJ0_coder_7d493 yJ0_coder_7d493, Cond.code yJ0_coder_7d493 cJ0_coder_7d493 1 (some .byte), Cond.fieldLink RJ0 38 "java/lang/String" "COMPACT_STRINGS" "Z", Cond.fieldLink RJ0 15 "java/lang/String" "coder" "B", Cond.methodLink RX8 278 yJ0_charAt_5068e, Cond.instanceMethod yJ0_charAt_5068e, Cond.selects RJ0 yJ0_charAt_5068e yJ0_charAt_5068e, Cond.code yJ0_charAt_5068e cJ0_charAt_5068e 2 (some .char), Cond.methodLink RJ0 492 yJ0_isLatin1_aae02, Cond.instanceMethod yJ0_isLatin1_aae02, Cond.selects RJ0 yJ0_isLatin1_aae02 yJ0_isLatin1_aae02, Cond.code yJ0_isLatin1_aae02 cJ0_isLatin1_aae02 1 (some .boolean), Cond.methodLink RJ0 495 yJ1_charAt_3b067, Cond.static yJ1_charAt_3b067, Cond.initialized RJ1, Cond.code yJ1_charAt_3b067 cJ1_charAt_3b067 2 (some .char), Cond.methodLink RJ1 9 yJ0_checkIndex_df160, Cond.static yJ0_checkIndex_df160, Cond.code yJ0_checkIndex_df160 cJ0_checkIndex_df160 2 none, Cond.fieldLink RJ0 1053 "jdk/internal/util/Preconditions" "SIOOBE_FORMATTER" "Ljava/util/function/BiFunction;", Cond.methodLink RJ0 1059 yJ3_checkIndex_8e157, Cond.static yJ3_checkIndex_8e157, Cond.initialized RJ3, Cond.code yJ3_checkIndex_8e157 cJ3_checkIndex_8e157 3 (some .int)]
def wsX8_readItem_r3 : List Cond := [Cond.methodLink RJ0 498 yJ2_charAt_3b067, Cond.static yJ2_charAt_3b067, Cond.initialized RJ2, Cond.code yJ2_charAt_3b067 cJ2_charAt_3b067 2 (some .char), Cond.methodLink RJ2 67 yJ2_checkIndex_2214a, Cond.static yJ2_checkIndex_2214a, Cond.code yJ2_checkIndex_2214a cJ2_checkIndex_2214a 2 none, Cond.methodLink RJ2 48 yJ2_length_9d52b, Cond.static yJ2_length_9d52b, Cond.code yJ2_length_9d52b cJ2_length_9d52b 1 (some .int), Cond.methodLink RJ2 414 yJ0_checkIndex_df160, Cond.methodLink RJ2 71 yJ2_getChar_3b067, Cond.static yJ2_getChar_3b067, Cond.code yJ2_getChar_3b067 cJ2_getChar_3b067 2 (some .char), Cond.fieldLink RJ2 44 "java/lang/StringUTF16" "$assertionsDisabled" "Z", Cond.fieldLink RJ2 59 "java/lang/StringUTF16" "HI_BYTE_SHIFT" "I", Cond.fieldLink RJ2 63 "java/lang/StringUTF16" "LO_BYTE_SHIFT" "I", Cond.methodLink RX8 289 yX8_must, Cond.instanceMethod yX8_must, Cond.selects RX8 yX8_must yX8_must, Cond.code yX8_must cX8_must 2 none, Cond.fieldLink RX8 282 "SharedShadowModel" "isWrong" "Z", Cond.methodLink RX8 286 yX8_next, Cond.instanceMethod yX8_next]
def wsX8_readItem_r4 : List Cond := [Cond.selects RX8 yX8_next yX8_next, Cond.code yX8_next cX8_next 2 none, Cond.fieldLink RX8 268 "SharedShadowModel" "value" "I", Cond.constant RX8 274 (100000), Cond.methodLink RX8 105 Lib.Math.min.name, Cond.static Lib.Math.min.name, Cond.initialized "java/lang/Math", Cond.code Lib.Math.min.name Lib.Math.min.code 2 (some .int), Cond.methodLink RX8 265 yX8_byteAt, Cond.instanceMethod yX8_byteAt, Cond.selects RX8 yX8_byteAt yX8_byteAt, Cond.code yX8_byteAt cX8_byteAt 2 (some .int), Cond.fieldLink RX8 256 "SharedShadowModel" "taped" "I", Cond.methodLink RX8 78 yX8_within, Cond.static yX8_within, Cond.code yX8_within cX8_within 3 (some .boolean), Cond.methodLink RX8 311 yX8_isNext, Cond.instanceMethod yX8_isNext, Cond.selects RX8 yX8_isNext yX8_isNext, Cond.code yX8_isNext cX8_isNext 3 (some .boolean), Cond.methodLink RX8 303 yX8_number, Cond.instanceMethod yX8_number, Cond.selects RX8 yX8_number yX8_number, Cond.code yX8_number cX8_number 4 (some .int)]
def wsX8_readItem_r5 : List Cond := [Cond.methodLink RX8 318 yX8_item, Cond.instanceMethod yX8_item, Cond.selects RX8 yX8_item yX8_item, Cond.code yX8_item cX8_item 6 none, Cond.fieldLink RX8 293 "SharedShadowModel" "itemMany" "I", Cond.fieldLink RX8 57 "SharedShadowModel" "items" "[I", Cond.methodLink RX8 324 yX8_another, Cond.instanceMethod yX8_another, Cond.selects RX8 yX8_another yX8_another, Cond.code yX8_another cX8_another 5 (some .int)]
def wsX8_readItem : List Cond := .code yX8_readItem cX8_readItem 4 none :: ((wsX8_readItem_r1 ++ (wsX8_readItem_r2 ++ (wsX8_readItem_r3 ++ (wsX8_readItem_r4 ++ wsX8_readItem_r5)))) ++ wsX80)
def wsX8_isSo_r1 : List Cond := [Cond.fieldLink RX8 57 "SharedShadowModel" "items" "[I", Cond.methodLink RX8 149 yX8_areMates, Cond.instanceMethod yX8_areMates, Cond.selects RX8 yX8_areMates yX8_areMates, Cond.initialized RX8, Cond.code yX8_areMates cX8_areMates 4 (some .int), Cond.fieldLink RX8 9 "SharedShadowModel" "now" "[I", Cond.methodLink RX8 102 yX8_personIs, Cond.instanceMethod yX8_personIs, Cond.selects RX8 yX8_personIs yX8_personIs, Cond.code yX8_personIs cX8_personIs 3 (some .int), Cond.methodLink RX8 82 yX8_at, Cond.static yX8_at, Cond.code yX8_at cX8_at 2 (some .int), Cond.methodLink RX8 143 yX8_parts, Cond.instanceMethod yX8_parts, Cond.selects RX8 yX8_parts yX8_parts, Cond.code yX8_parts cX8_parts 3 (some .int), Cond.methodLink RX8 140 yX8_become, Cond.instanceMethod yX8_become, Cond.selects RX8 yX8_become yX8_become, Cond.code yX8_become cX8_become 4 (some .int), Cond.methodLink RX8 95 yX8_comes, Cond.instanceMethod yX8_comes]
def wsX8_isSo_r2 : List Cond := [Cond.selects RX8 yX8_comes yX8_comes, Cond.code yX8_comes cX8_comes 6 (some .int)]
def wsX8_isSo : List Cond := .code yX8_isSo cX8_isSo 4 (some .int) :: ((wsX8_isSo_r1 ++ wsX8_isSo_r2) ++ wsX80)
def wsX8_text_r1 : List Cond := [Cond.fieldLink RX8 259 "SharedShadowModel" "ends" "I", Cond.fieldLink RX8 282 "SharedShadowModel" "isWrong" "Z", Cond.fieldLink RX8 293 "SharedShadowModel" "itemMany" "I", Cond.fieldLink RX8 9 "SharedShadowModel" "now" "[I", Cond.fieldLink RX8 300 "SharedShadowModel" "personThen" "I", Cond.fieldLink RX8 271 "SharedShadowModel" "sort" "I", Cond.fieldLink RX8 34 "SharedShadowModel" "tape" "[I", Cond.fieldLink RX8 262 "SharedShadowModel" "begins" "I", Cond.fieldLink RX8 256 "SharedShadowModel" "taped" "I", Cond.methodLink RX8 286 yX8_next, Cond.instanceMethod yX8_next, Cond.selects RX8 yX8_next yX8_next, Cond.initialized RX8, Cond.code yX8_next cX8_next 2 none, Cond.fieldLink RX8 268 "SharedShadowModel" "value" "I", Cond.constant RX8 274 (100000), Cond.methodLink RX8 105 Lib.Math.min.name, Cond.static Lib.Math.min.name, Cond.initialized "java/lang/Math", Cond.code Lib.Math.min.name Lib.Math.min.code 2 (some .int), Cond.methodLink RX8 265 yX8_byteAt, Cond.instanceMethod yX8_byteAt, Cond.selects RX8 yX8_byteAt yX8_byteAt, Cond.code yX8_byteAt cX8_byteAt 2 (some .int)]
def wsX8_text_r2 : List Cond := [Cond.methodLink RX8 78 yX8_within, Cond.static yX8_within, Cond.code yX8_within cX8_within 3 (some .boolean), Cond.methodLink RX8 330 yX8_readItem, Cond.instanceMethod yX8_readItem, Cond.selects RX8 yX8_readItem yX8_readItem, Cond.code yX8_readItem cX8_readItem 4 none, Cond.constant RX8 72 (65535), Cond.methodLink RX8 306 yX8_kindTold, Cond.instanceMethod yX8_kindTold, Cond.selects RX8 yX8_kindTold yX8_kindTold, Cond.code yX8_kindTold cX8_kindTold 3 (some .int), Cond.fieldLink RX8 53 "SharedShadowModel" "kinds" "[Ljava/lang/String;", Cond.methodLink RX8 296 yX8_isWord, Cond.instanceMethod yX8_isWord, Cond.selects RX8 yX8_isWord yX8_isWord, Cond.code yX8_isWord cX8_isWord 4 (some .boolean), Cond.methodLink RX8 275 yJ0_length_8abf5, Cond.instanceMethod yJ0_length_8abf5, Cond.selects RJ0 yJ0_length_8abf5 yJ0_length_8abf5, Cond.initialized RJ0, Cond.code yJ0_length_8abf5 cJ0_length_8abf5 1 (some .int), Cond.fieldLink RJ0 9 "java/lang/String" "value" "[B", Cond.methodLink RJ0 335 yJ0_coder_7d493]
def wsX8_text_r3 : List Cond := [Cond.instanceMethod yJ0_coder_7d493, Cond.selects RJ0 yJ0_coder_7d493 yJ0_coder_7d493, Cond.code yJ0_coder_7d493 cJ0_coder_7d493 1 (some .byte), Cond.fieldLink RJ0 38 "java/lang/String" "COMPACT_STRINGS" "Z", Cond.fieldLink RJ0 15 "java/lang/String" "coder" "B", Cond.methodLink RX8 278 yJ0_charAt_5068e, Cond.instanceMethod yJ0_charAt_5068e, Cond.selects RJ0 yJ0_charAt_5068e yJ0_charAt_5068e, Cond.code yJ0_charAt_5068e cJ0_charAt_5068e 2 (some .char), Cond.methodLink RJ0 492 yJ0_isLatin1_aae02, Cond.instanceMethod yJ0_isLatin1_aae02, Cond.selects RJ0 yJ0_isLatin1_aae02 yJ0_isLatin1_aae02, Cond.code yJ0_isLatin1_aae02 cJ0_isLatin1_aae02 1 (some .boolean), Cond.methodLink RJ0 495 yJ1_charAt_3b067, Cond.static yJ1_charAt_3b067, Cond.initialized RJ1, Cond.code yJ1_charAt_3b067 cJ1_charAt_3b067 2 (some .char), Cond.methodLink RJ1 9 yJ0_checkIndex_df160, Cond.static yJ0_checkIndex_df160, Cond.code yJ0_checkIndex_df160 cJ0_checkIndex_df160 2 none, Cond.fieldLink RJ0 1053 "jdk/internal/util/Preconditions" "SIOOBE_FORMATTER" "Ljava/util/function/BiFunction;", Cond.methodLink RJ0 1059 yJ3_checkIndex_8e157, Cond.static yJ3_checkIndex_8e157, Cond.initialized RJ3]
def wsX8_text_r4 : List Cond := [Cond.code yJ3_checkIndex_8e157 cJ3_checkIndex_8e157 3 (some .int), Cond.methodLink RJ0 498 yJ2_charAt_3b067, Cond.static yJ2_charAt_3b067, Cond.initialized RJ2, Cond.code yJ2_charAt_3b067 cJ2_charAt_3b067 2 (some .char), Cond.methodLink RJ2 67 yJ2_checkIndex_2214a, Cond.static yJ2_checkIndex_2214a, Cond.code yJ2_checkIndex_2214a cJ2_checkIndex_2214a 2 none, Cond.methodLink RJ2 48 yJ2_length_9d52b, Cond.static yJ2_length_9d52b, Cond.code yJ2_length_9d52b cJ2_length_9d52b 1 (some .int), Cond.methodLink RJ2 414 yJ0_checkIndex_df160, Cond.methodLink RJ2 71 yJ2_getChar_3b067, Cond.static yJ2_getChar_3b067, Cond.code yJ2_getChar_3b067 cJ2_getChar_3b067 2 (some .char), Cond.fieldLink RJ2 44 "java/lang/StringUTF16" "$assertionsDisabled" "Z", Cond.fieldLink RJ2 59 "java/lang/StringUTF16" "HI_BYTE_SHIFT" "I", Cond.fieldLink RJ2 63 "java/lang/StringUTF16" "LO_BYTE_SHIFT" "I", Cond.methodLink RX8 289 yX8_must, Cond.instanceMethod yX8_must, Cond.selects RX8 yX8_must yX8_must, Cond.code yX8_must cX8_must 2 none, Cond.methodLink RX8 311 yX8_isNext, Cond.instanceMethod yX8_isNext]
def wsX8_text_r5 : List Cond := [Cond.selects RX8 yX8_isNext yX8_isNext, Cond.code yX8_isNext cX8_isNext 3 (some .boolean), Cond.methodLink RX8 303 yX8_number, Cond.instanceMethod yX8_number, Cond.selects RX8 yX8_number yX8_number, Cond.code yX8_number cX8_number 4 (some .int), Cond.methodLink RX8 318 yX8_item, Cond.instanceMethod yX8_item, Cond.selects RX8 yX8_item yX8_item, Cond.code yX8_item cX8_item 6 none, Cond.fieldLink RX8 57 "SharedShadowModel" "items" "[I", Cond.methodLink RX8 324 yX8_another, Cond.instanceMethod yX8_another, Cond.selects RX8 yX8_another yX8_another, Cond.code yX8_another cX8_another 5 (some .int), Cond.methodLink RX8 333 yX8_isSo, Cond.instanceMethod yX8_isSo, Cond.selects RX8 yX8_isSo yX8_isSo, Cond.code yX8_isSo cX8_isSo 4 (some .int), Cond.methodLink RX8 149 yX8_areMates, Cond.instanceMethod yX8_areMates, Cond.selects RX8 yX8_areMates yX8_areMates, Cond.code yX8_areMates cX8_areMates 4 (some .int), Cond.methodLink RX8 102 yX8_personIs]
def wsX8_text_r6 : List Cond := [Cond.instanceMethod yX8_personIs, Cond.selects RX8 yX8_personIs yX8_personIs, Cond.code yX8_personIs cX8_personIs 3 (some .int), Cond.methodLink RX8 82 yX8_at, Cond.static yX8_at, Cond.code yX8_at cX8_at 2 (some .int), Cond.methodLink RX8 143 yX8_parts, Cond.instanceMethod yX8_parts, Cond.selects RX8 yX8_parts yX8_parts, Cond.code yX8_parts cX8_parts 3 (some .int), Cond.methodLink RX8 140 yX8_become, Cond.instanceMethod yX8_become, Cond.selects RX8 yX8_become yX8_become, Cond.code yX8_become cX8_become 4 (some .int), Cond.methodLink RX8 95 yX8_comes, Cond.instanceMethod yX8_comes, Cond.selects RX8 yX8_comes yX8_comes, Cond.code yX8_comes cX8_comes 6 (some .int)]
def wsX8_text : List Cond := .code yX8_text cX8_text 3 (some .int) :: ((wsX8_text_r1 ++ (wsX8_text_r2 ++ (wsX8_text_r3 ++ (wsX8_text_r4 ++ (wsX8_text_r5 ++ wsX8_text_r6))))) ++ wsX80)
def wsX8_isSpot : List Cond := .code yX8_isSpot cX8_isSpot 1 (some .boolean) :: ([.methodLink RX8 78 yX8_within, .static yX8_within, .initialized RX8, .code yX8_within cX8_within 3 (some .boolean)])
def wsX8_hold : List Cond := .code yX8_hold cX8_hold 3 (some .int) :: ([.constant RX8 73 (-1000001), .fieldLink RX8 9 "SharedShadowModel" "now" "[I", .methodLink RX8 336 yX8_isSpot, .static yX8_isSpot, .initialized RX8, .code yX8_isSpot cX8_isSpot 1 (some .boolean), .methodLink RX8 78 yX8_within, .static yX8_within, .code yX8_within cX8_within 3 (some .boolean), .methodLink RX8 130 yX8_isPerson, .instanceMethod yX8_isPerson, .selects RX8 yX8_isPerson yX8_isPerson, .code yX8_isPerson cX8_isPerson 2 (some .boolean), .methodLink RX8 90 yX8_finding, .instanceMethod yX8_finding, .selects RX8 yX8_finding yX8_finding, .code yX8_finding cX8_finding 2 (some .int), .fieldLink RX8 19 "SharedShadowModel" "found" "[I"] ++ wsX80)
def wsX8_as_r1 : List Cond := [Cond.constant RX8 73 (-1000001), Cond.fieldLink RX8 9 "SharedShadowModel" "now" "[I", Cond.constant RX8 241 (-1000006), Cond.constant RX8 342 (-1000003), Cond.methodLink RX8 336 yX8_isSpot, Cond.static yX8_isSpot, Cond.initialized RX8, Cond.code yX8_isSpot cX8_isSpot 1 (some .boolean), Cond.methodLink RX8 78 yX8_within, Cond.static yX8_within, Cond.code yX8_within cX8_within 3 (some .boolean), Cond.methodLink RX8 86 yX8_isKind, Cond.static yX8_isKind, Cond.code yX8_isKind cX8_isKind 1 (some .boolean), Cond.methodLink RX8 90 yX8_finding, Cond.instanceMethod yX8_finding, Cond.selects RX8 yX8_finding yX8_finding, Cond.code yX8_finding cX8_finding 2 (some .int), Cond.fieldLink RX8 19 "SharedShadowModel" "found" "[I", Cond.methodLink RX8 102 yX8_personIs, Cond.instanceMethod yX8_personIs, Cond.selects RX8 yX8_personIs yX8_personIs, Cond.code yX8_personIs cX8_personIs 3 (some .int), Cond.methodLink RX8 82 yX8_at]
def wsX8_as_r2 : List Cond := [Cond.static yX8_at, Cond.code yX8_at cX8_at 2 (some .int), Cond.methodLink RX8 339 yX8_isUnder, Cond.static yX8_isUnder, Cond.code yX8_isUnder cX8_isUnder 3 (some .boolean), Cond.methodLink RX8 99 yX8_above, Cond.static yX8_above, Cond.code yX8_above cX8_above 1 (some .int)]
def wsX8_as : List Cond := .code yX8_as cX8_as 4 (some .int) :: ((wsX8_as_r1 ++ wsX8_as_r2) ++ wsX80)
def wsX8_cutTo : List Cond := .code yX8_cutTo cX8_cutTo 2 (some .int) :: ([])
def wsX8_sheet : List Cond := .code yX8_sheet cX8_sheet 5 (some .int) :: ([.constant RX8 73 (-1000001), .constant RX8 343 (-1000007), .fieldLink RX8 60 "SharedShadowModel" "widths" "[I", .fieldLink RX8 63 "SharedShadowModel" "sizes" "[I", .fieldLink RX8 66 "SharedShadowModel" "numbers" "[I", .methodLink RX8 238 yX8_isSheet, .static yX8_isSheet, .initialized RX8, .code yX8_isSheet cX8_isSheet 1 (some .boolean), .methodLink RX8 78 yX8_within, .static yX8_within, .code yX8_within cX8_within 3 (some .boolean), .methodLink RX8 90 yX8_finding, .instanceMethod yX8_finding, .selects RX8 yX8_finding yX8_finding, .code yX8_finding cX8_finding 2 (some .int), .fieldLink RX8 19 "SharedShadowModel" "found" "[I"] ++ wsX80)
def wsX8_write : List Cond := .code yX8_write cX8_write 4 (some .int) :: ([.constant RX8 73 (-1000001), .fieldLink RX8 60 "SharedShadowModel" "widths" "[I", .constant RX8 241 (-1000006), .fieldLink RX8 63 "SharedShadowModel" "sizes" "[I", .fieldLink RX8 66 "SharedShadowModel" "numbers" "[I", .methodLink RX8 238 yX8_isSheet, .static yX8_isSheet, .initialized RX8, .code yX8_isSheet cX8_isSheet 1 (some .boolean), .methodLink RX8 78 yX8_within, .static yX8_within, .code yX8_within cX8_within 3 (some .boolean), .methodLink RX8 90 yX8_finding, .instanceMethod yX8_finding, .selects RX8 yX8_finding yX8_finding, .code yX8_finding cX8_finding 2 (some .int), .fieldLink RX8 19 "SharedShadowModel" "found" "[I", .methodLink RX8 344 yX8_cutTo, .static yX8_cutTo, .code yX8_cutTo cX8_cutTo 2 (some .int)] ++ wsX80)
def wsX8_copy : List Cond := .code yX8_copy cX8_copy 7 (some .int) :: ([.constant RX8 73 (-1000001), .fieldLink RX8 60 "SharedShadowModel" "widths" "[I", .constant RX8 241 (-1000006), .constant RX8 342 (-1000003), .fieldLink RX8 63 "SharedShadowModel" "sizes" "[I", .fieldLink RX8 69 "SharedShadowModel" "moved" "[I", .fieldLink RX8 66 "SharedShadowModel" "numbers" "[I", .methodLink RX8 238 yX8_isSheet, .static yX8_isSheet, .initialized RX8, .code yX8_isSheet cX8_isSheet 1 (some .boolean), .methodLink RX8 78 yX8_within, .static yX8_within, .code yX8_within cX8_within 3 (some .boolean), .methodLink RX8 90 yX8_finding, .instanceMethod yX8_finding, .selects RX8 yX8_finding yX8_finding, .code yX8_finding cX8_finding 2 (some .int), .fieldLink RX8 19 "SharedShadowModel" "found" "[I"] ++ wsX80)
def wsX8_load_r1 : List Cond := [Cond.constant RX8 73 (-1000001), Cond.fieldLink RX8 60 "SharedShadowModel" "widths" "[I", Cond.constant RX8 241 (-1000006), Cond.fieldLink RX8 63 "SharedShadowModel" "sizes" "[I", Cond.fieldLink RX8 66 "SharedShadowModel" "numbers" "[I", Cond.fieldLink RX8 9 "SharedShadowModel" "now" "[I", Cond.methodLink RX8 238 yX8_isSheet, Cond.static yX8_isSheet, Cond.initialized RX8, Cond.code yX8_isSheet cX8_isSheet 1 (some .boolean), Cond.methodLink RX8 78 yX8_within, Cond.static yX8_within, Cond.code yX8_within cX8_within 3 (some .boolean), Cond.methodLink RX8 90 yX8_finding, Cond.instanceMethod yX8_finding, Cond.selects RX8 yX8_finding yX8_finding, Cond.code yX8_finding cX8_finding 2 (some .int), Cond.fieldLink RX8 19 "SharedShadowModel" "found" "[I", Cond.methodLink RX8 130 yX8_isPerson, Cond.instanceMethod yX8_isPerson, Cond.selects RX8 yX8_isPerson yX8_isPerson, Cond.code yX8_isPerson cX8_isPerson 2 (some .boolean), Cond.methodLink RX8 82 yX8_at, Cond.static yX8_at]
def wsX8_load_r2 : List Cond := [Cond.code yX8_at cX8_at 2 (some .int)]
def wsX8_load : List Cond := .code yX8_load cX8_load 3 (some .int) :: ((wsX8_load_r1 ++ wsX8_load_r2) ++ wsX80)
def wsX8_judge_r1 : List Cond := [Cond.constant RX8 73 (-1000001), Cond.fieldLink RX8 60 "SharedShadowModel" "widths" "[I", Cond.constant RX8 241 (-1000006), Cond.fieldLink RX8 9 "SharedShadowModel" "now" "[I", Cond.fieldLink RX8 16 "SharedShadowModel" "aside" "[I", Cond.fieldLink RX8 63 "SharedShadowModel" "sizes" "[I", Cond.fieldLink RX8 66 "SharedShadowModel" "numbers" "[I", Cond.methodLink RX8 238 yX8_isSheet, Cond.static yX8_isSheet, Cond.initialized RX8, Cond.code yX8_isSheet cX8_isSheet 1 (some .boolean), Cond.methodLink RX8 78 yX8_within, Cond.static yX8_within, Cond.code yX8_within cX8_within 3 (some .boolean), Cond.methodLink RX8 90 yX8_finding, Cond.instanceMethod yX8_finding, Cond.selects RX8 yX8_finding yX8_finding, Cond.code yX8_finding cX8_finding 2 (some .int), Cond.fieldLink RX8 19 "SharedShadowModel" "found" "[I", Cond.methodLink RX8 74 yX8_copyRow, Cond.static yX8_copyRow, Cond.code yX8_copyRow cX8_copyRow 3 none, Cond.methodLink RX8 133 yX8_isOver, Cond.instanceMethod yX8_isOver]
def wsX8_judge_r2 : List Cond := [Cond.selects RX8 yX8_isOver yX8_isOver, Cond.code yX8_isOver cX8_isOver 1 (some .boolean), Cond.methodLink RX8 153 yX8_whoHave, Cond.instanceMethod yX8_whoHave, Cond.selects RX8 yX8_whoHave yX8_whoHave, Cond.code yX8_whoHave cX8_whoHave 4 (some .int), Cond.methodLink RX8 127 yX8_hasShadow, Cond.instanceMethod yX8_hasShadow, Cond.selects RX8 yX8_hasShadow yX8_hasShadow, Cond.code yX8_hasShadow cX8_hasShadow 4 (some .boolean), Cond.methodLink RX8 102 yX8_personIs, Cond.instanceMethod yX8_personIs, Cond.selects RX8 yX8_personIs yX8_personIs, Cond.code yX8_personIs cX8_personIs 3 (some .int), Cond.methodLink RX8 82 yX8_at, Cond.static yX8_at, Cond.code yX8_at cX8_at 2 (some .int), Cond.methodLink RX8 120 yX8_isLit, Cond.instanceMethod yX8_isLit, Cond.selects RX8 yX8_isLit yX8_isLit, Cond.code yX8_isLit cX8_isLit 2 (some .boolean), Cond.methodLink RX8 116 yX8_has, Cond.static yX8_has, Cond.code yX8_has cX8_has 2 (some .boolean)]
def wsX8_judge_r3 : List Cond := [Cond.methodLink RX8 123 yX8_firstOf, Cond.instanceMethod yX8_firstOf, Cond.selects RX8 yX8_firstOf yX8_firstOf, Cond.code yX8_firstOf cX8_firstOf 6 (some .int), Cond.methodLink RX8 105 Lib.Math.min.name, Cond.static Lib.Math.min.name, Cond.initialized "java/lang/Math", Cond.code Lib.Math.min.name Lib.Math.min.code 2 (some .int), Cond.methodLink RX8 110 Lib.Math.max.name, Cond.static Lib.Math.max.name, Cond.code Lib.Math.max.name Lib.Math.max.code 2 (some .int), Cond.methodLink RX8 113 yX8_claimOf, Cond.instanceMethod yX8_claimOf, Cond.selects RX8 yX8_claimOf yX8_claimOf, Cond.code yX8_claimOf cX8_claimOf 5 (some .int), Cond.methodLink RX8 156 yX8_hour, Cond.instanceMethod yX8_hour, Cond.selects RX8 yX8_hour yX8_hour, Cond.code yX8_hour cX8_hour 7 none, Cond.methodLink RX8 188 yX8_putBack, Cond.instanceMethod yX8_putBack, Cond.selects RX8 yX8_putBack yX8_putBack, Cond.code yX8_putBack cX8_putBack 2 (some .int)]
def wsX8_judge : List Cond := .code yX8_judge cX8_judge 4 (some .int) :: ((wsX8_judge_r1 ++ (wsX8_judge_r2 ++ wsX8_judge_r3)) ++ wsX80)
def wsX8_image : List Cond := .code yX8_image cX8_image 1 (some .int) :: ([.fieldLink RX8 9 "SharedShadowModel" "now" "[I", .fieldLink RX8 13 "SharedShadowModel" "kept" "[I", .fieldLink RX8 347 "SharedShadowModel" "isKept" "Z", .methodLink RX8 74 yX8_copyRow, .static yX8_copyRow, .initialized RX8, .code yX8_copyRow cX8_copyRow 3 none] ++ wsX80)
def wsX8_undo : List Cond := .code yX8_undo cX8_undo 1 (some .int) :: ([.fieldLink RX8 347 "SharedShadowModel" "isKept" "Z", .constant RX8 152 (-1000004), .fieldLink RX8 13 "SharedShadowModel" "kept" "[I", .fieldLink RX8 9 "SharedShadowModel" "now" "[I", .methodLink RX8 90 yX8_finding, .instanceMethod yX8_finding, .selects RX8 yX8_finding yX8_finding, .initialized RX8, .code yX8_finding cX8_finding 2 (some .int), .fieldLink RX8 19 "SharedShadowModel" "found" "[I", .constant RX8 73 (-1000001), .methodLink RX8 74 yX8_copyRow, .static yX8_copyRow, .code yX8_copyRow cX8_copyRow 3 none] ++ wsX80)
def wsX8_tear : List Cond := .code yX8_tear cX8_tear 2 (some .int) :: ([.fieldLink RX8 347 "SharedShadowModel" "isKept" "Z"] ++ wsX80)
def wsX8_count : List Cond := .code yX8_count cX8_count 4 (some .int) :: ([.fieldLink RX8 9 "SharedShadowModel" "now" "[I", .fieldLink RX8 256 "SharedShadowModel" "taped" "I", .constant RX8 73 (-1000001), .methodLink RX8 102 yX8_personIs, .instanceMethod yX8_personIs, .selects RX8 yX8_personIs yX8_personIs, .initialized RX8, .code yX8_personIs cX8_personIs 3 (some .int), .methodLink RX8 82 yX8_at, .static yX8_at, .code yX8_at cX8_at 2 (some .int), .methodLink RX8 90 yX8_finding, .instanceMethod yX8_finding, .selects RX8 yX8_finding yX8_finding, .code yX8_finding cX8_finding 2 (some .int), .fieldLink RX8 19 "SharedShadowModel" "found" "[I"] ++ wsX80)
def wsX8_status : List Cond := .code yX8_status cX8_status 2 (some .int) :: ([.fieldLink RX8 19 "SharedShadowModel" "found" "[I", .constant RX8 73 (-1000001), .methodLink RX8 78 yX8_within, .static yX8_within, .initialized RX8, .code yX8_within cX8_within 3 (some .boolean), .methodLink RX8 90 yX8_finding, .instanceMethod yX8_finding, .selects RX8 yX8_finding yX8_finding, .code yX8_finding cX8_finding 2 (some .int)] ++ wsX80)
def wsJ9_max_7cf53 : List Cond := .code yJ9_max_7cf53 cJ9_max_7cf53 2 (some .int) :: ([])
def wsJ9_min_7cf53 : List Cond := .code yJ9_min_7cf53 cJ9_min_7cf53 2 (some .int) :: ([])
def wsL_law_r1 : List Cond := [Cond.classLink RL 7 RX7, Cond.instantiable RX7 10, Cond.initialized RX7, Cond.classLink RL 10 RX8, Cond.instantiable RX8 29, Cond.initialized RX8, Cond.methodLink RL 9 yX7_init, Cond.instanceMethod yX7_init, Cond.code yX7_init cX7_init 2 none, Cond.methodLink RX7 1 objectInit, Cond.instanceMethod objectInit, Cond.code objectInit ⟨#[0xb1]⟩ 1 none, Cond.classLink RX7 7 RX1, Cond.instantiable RX1 12, Cond.initialized RX1, Cond.fieldLink RX7 10 "SharedShadow" "land" "LSharedShadow$Land;", Cond.fieldLink RX7 16 "SharedShadow" "kept" "LSharedShadow$Land;", Cond.classLink RX7 19 RX4, Cond.instantiable RX4 4, Cond.initialized RX4, Cond.fieldLink RX7 22 "SharedShadow" "rest" "LSharedShadow$Rest;", Cond.classLink RX7 26 RX0, Cond.instantiable RX0 6, Cond.initialized RX0]
def wsL_law_r2 : List Cond := [Cond.fieldLink RX7 29 "SharedShadow" "agreement" "LSharedShadow$Agreement;", Cond.classLink RX7 33 RX2, Cond.instantiable RX2 3, Cond.initialized RX2, Cond.fieldLink RX7 36 "SharedShadow" "pairings" "LSharedShadow$Pairings;", Cond.classLink RX7 40 RX3, Cond.instantiable RX3 8, Cond.initialized RX3, Cond.fieldLink RX7 43 "SharedShadow" "reader" "LSharedShadow$Reader;", Cond.fieldLink RX7 47 "SharedShadow$Reader" "tape" "LSharedShadow$Tape;", Cond.fieldLink RX7 51 "SharedShadow" "tape" "LSharedShadow$Tape;", Cond.classLink RX7 52 RX5, Cond.fieldLink RX7 54 "SharedShadow" "sheets" "[LSharedShadow$Sheet;", Cond.arrayClass .int, Cond.fieldLink RX7 58 "SharedShadow" "findings" "[I", Cond.fieldLink RX7 62 "SharedShadow" "isKept" "Z", Cond.instantiable RX5 3, Cond.initialized RX5, Cond.methodLink RX7 9 yX1_init, Cond.instanceMethod yX1_init, Cond.code yX1_init cX1_init 2 none, Cond.methodLink RX1 3 objectInit, Cond.fieldLink RX1 9 "SharedShadow$Land" "kind" "[I", Cond.fieldLink RX1 15 "SharedShadow$Land" "sun" "[I"]
def wsL_law_r3 : List Cond := [Cond.fieldLink RX1 18 "SharedShadow$Land" "strength" "[I", Cond.fieldLink RX1 21 "SharedShadow$Land" "needs" "[I", Cond.fieldLink RX1 24 "SharedShadow$Land" "partner" "[I", Cond.fieldLink RX1 27 "SharedShadow$Land" "spots" "[I", Cond.fieldLink RX1 30 "SharedShadow$Land" "people" "I", Cond.constant RX1 34 (65535), Cond.fieldLink RX1 35 "SharedShadow$Land" "lit" "I", Cond.fieldLink RX1 38 "SharedShadow$Land" "hour" "I", Cond.fieldLink RX1 41 "SharedShadow$Land" "wereMet" "I", Cond.fieldLink RX1 44 "SharedShadow$Land" "wereMissed" "I", Cond.fieldLink RX1 47 "SharedShadow$Land" "drawn" "I", Cond.instanceMethod yX4_init, Cond.code yX4_init cX4_init 1 none, Cond.methodLink RX4 3 objectInit, Cond.classLink RX4 9 RX1, Cond.fieldLink RX4 12 "SharedShadow$Rest" "to" "LSharedShadow$Land;", Cond.fieldLink RX4 18 "SharedShadow$Rest" "have" "[I", Cond.fieldLink RX4 22 "SharedShadow$Rest" "first" "I", Cond.fieldLink RX4 26 "SharedShadow$Rest" "left" "I", Cond.methodLink RX4 11 yX1_init, Cond.instanceMethod yX0_init, Cond.code yX0_init cX0_init 1 none, Cond.methodLink RX0 3 objectInit, Cond.fieldLink RX0 9 "SharedShadow$Agreement" "who" "[I"]
def wsL_law_r4 : List Cond := [Cond.fieldLink RX0 15 "SharedShadow$Agreement" "needs" "[I", Cond.fieldLink RX0 18 "SharedShadow$Agreement" "held" "[I", Cond.fieldLink RX0 21 "SharedShadow$Agreement" "behind" "[I", Cond.fieldLink RX0 24 "SharedShadow$Agreement" "shared" "I", Cond.fieldLink RX0 28 "SharedShadow$Agreement" "dark" "I", Cond.instanceMethod yX2_init, Cond.code yX2_init cX2_init 1 none, Cond.methodLink RX2 3 objectInit, Cond.fieldLink RX2 9 "SharedShadow$Pairings" "values" "[I", Cond.fieldLink RX2 15 "SharedShadow$Pairings" "best" "[I", Cond.fieldLink RX2 18 "SharedShadow$Pairings" "number" "[I", Cond.instanceMethod yX3_init, Cond.code yX3_init cX3_init 1 none, Cond.methodLink RX3 5 objectInit, Cond.classLink RX3 1 RX6, Cond.instantiable RX6 2, Cond.initialized RX6, Cond.fieldLink RX3 12 "SharedShadow$Reader" "tape" "LSharedShadow$Tape;", Cond.classLink RX3 18 RX1, Cond.fieldLink RX3 21 "SharedShadow$Reader" "draft" "LSharedShadow$Land;", Cond.fieldLink RX3 25 "SharedShadow$Reader" "types" "[I", Cond.fieldLink RX3 29 "SharedShadow$Reader" "places" "[I", Cond.fieldLink RX3 32 "SharedShadow$Reader" "ends" "[I", Cond.fieldLink RX3 35 "SharedShadow$Reader" "values" "[I"]
def wsL_law_r5 : List Cond := [Cond.fieldLink RX3 38 "SharedShadow$Reader" "tokens" "I", Cond.fieldLink RX3 42 "SharedShadow$Reader" "next" "I", Cond.instanceMethod yX6_init, Cond.code yX6_init cX6_init 1 none, Cond.methodLink RX6 1 objectInit, Cond.fieldLink RX6 9 "SharedShadow$Tape" "bytes" "[I", Cond.fieldLink RX6 13 "SharedShadow$Tape" "length" "I", Cond.methodLink RX3 20 yX1_init, Cond.instanceMethod yX5_init, Cond.code yX5_init cX5_init 1 none, Cond.methodLink RX5 3 objectInit, Cond.fieldLink RX5 9 "SharedShadow$Sheet" "numbers" "[I", Cond.fieldLink RX5 15 "SharedShadow$Sheet" "bits" "I", Cond.fieldLink RX5 19 "SharedShadow$Sheet" "length" "I", Cond.methodLink RL 12 yX8_init, Cond.instanceMethod yX8_init, Cond.code yX8_init cX8_init 2 none, Cond.methodLink RX8 1 objectInit, Cond.fieldLink RX8 9 "SharedShadowModel" "now" "[I", Cond.fieldLink RX8 13 "SharedShadowModel" "kept" "[I", Cond.fieldLink RX8 16 "SharedShadowModel" "aside" "[I", Cond.fieldLink RX8 19 "SharedShadowModel" "found" "[I", Cond.fieldLink RX8 22 "SharedShadowModel" "fewest" "[I", Cond.fieldLink RX8 25 "SharedShadowModel" "mosts" "[I"]
def wsL_law_r6 : List Cond := [Cond.fieldLink RX8 28 "SharedShadowModel" "many" "[I", Cond.fieldLink RX8 31 "SharedShadowModel" "mates" "[I", Cond.fieldLink RX8 34 "SharedShadowModel" "tape" "[I", Cond.classLink RX8 37 RJ0, Cond.fieldLink RX8 53 "SharedShadowModel" "kinds" "[Ljava/lang/String;", Cond.fieldLink RX8 57 "SharedShadowModel" "items" "[I", Cond.fieldLink RX8 60 "SharedShadowModel" "widths" "[I", Cond.fieldLink RX8 63 "SharedShadowModel" "sizes" "[I", Cond.fieldLink RX8 66 "SharedShadowModel" "numbers" "[I", Cond.fieldLink RX8 69 "SharedShadowModel" "moved" "[I", Cond.constant RX8 72 (65535), Cond.methodLink RL 13 yX7_person, Cond.instanceMethod yX7_person, Cond.selects RX7 yX7_person yX7_person, Cond.code yX7_person cX7_person 2 (some .int), Cond.methodLink RX7 67 yX7_isWithin, Cond.static yX7_isWithin, Cond.code yX7_isWithin cX7_isWithin 2 (some .boolean), Cond.methodLink RX7 71 yX7_found, Cond.instanceMethod yX7_found, Cond.selects RX7 yX7_found yX7_found, Cond.code yX7_found cX7_found 2 (some .int), Cond.constant RX7 306 (-1000001), Cond.methodLink RX7 75 yX1_isFull]
def wsL_law_r7 : List Cond := [Cond.instanceMethod yX1_isFull, Cond.selects RX1 yX1_isFull yX1_isFull, Cond.code yX1_isFull cX1_isFull 1 (some .boolean), Cond.methodLink RX7 79 yX1_add, Cond.instanceMethod yX1_add, Cond.selects RX1 yX1_add yX1_add, Cond.code yX1_add cX1_add 2 (some .int), Cond.methodLink RX1 60 yX1_isFull, Cond.methodLink RL 17 yX8_person, Cond.instanceMethod yX8_person, Cond.selects RX8 yX8_person yX8_person, Cond.code yX8_person cX8_person 2 (some .int), Cond.constant RX8 73 (-1000001), Cond.constant RX8 94 (-1000002), Cond.methodLink RX8 86 yX8_isKind, Cond.static yX8_isKind, Cond.code yX8_isKind cX8_isKind 1 (some .boolean), Cond.methodLink RX8 78 yX8_within, Cond.static yX8_within, Cond.code yX8_within cX8_within 3 (some .boolean), Cond.methodLink RX8 90 yX8_finding, Cond.instanceMethod yX8_finding, Cond.selects RX8 yX8_finding yX8_finding, Cond.code yX8_finding cX8_finding 2 (some .int)]
def wsL_law_r8 : List Cond := [Cond.methodLink RX8 95 yX8_comes, Cond.instanceMethod yX8_comes, Cond.selects RX8 yX8_comes yX8_comes, Cond.code yX8_comes cX8_comes 6 (some .int), Cond.methodLink RX8 82 yX8_at, Cond.static yX8_at, Cond.code yX8_at cX8_at 2 (some .int), Cond.methodLink RL 18 yX7_of, Cond.instanceMethod yX7_of, Cond.selects RX7 yX7_of yX7_of, Cond.code yX7_of cX7_of 3 (some .int), Cond.fieldLink RX7 86 "SharedShadow$Land" "kind" "[I", Cond.fieldLink RX7 89 "SharedShadow$Land" "sun" "[I", Cond.fieldLink RX7 92 "SharedShadow$Land" "strength" "[I", Cond.fieldLink RX7 95 "SharedShadow$Land" "needs" "[I", Cond.fieldLink RX7 98 "SharedShadow$Land" "partner" "[I", Cond.fieldLink RX7 101 "SharedShadow$Land" "hour" "I", Cond.methodLink RX7 82 yX1_isPerson, Cond.instanceMethod yX1_isPerson, Cond.selects RX1 yX1_isPerson yX1_isPerson, Cond.code yX1_isPerson cX1_isPerson 2 (some .boolean), Cond.methodLink RX7 105 yX1_claimOf, Cond.instanceMethod yX1_claimOf, Cond.selects RX1 yX1_claimOf yX1_claimOf]
def wsL_law_r9 : List Cond := [Cond.code yX1_claimOf cX1_claimOf 5 (some .int), Cond.methodLink RX7 109 yX1_havers, Cond.instanceMethod yX1_havers, Cond.selects RX1 yX1_havers yX1_havers, Cond.code yX1_havers cX1_havers 3 (some .int), Cond.static yX7_bit, Cond.code yX7_bit cX7_bit 2 (some .int), Cond.methodLink RX1 93 yX1_stronger, Cond.instanceMethod yX1_stronger, Cond.selects RX1 yX1_stronger yX1_stronger, Cond.code yX1_stronger cX1_stronger 6 (some .int), Cond.methodLink RX1 78 Lib.Math.min.name, Cond.static Lib.Math.min.name, Cond.initialized "java/lang/Math", Cond.code Lib.Math.min.name Lib.Math.min.code 2 (some .int), Cond.methodLink RX1 84 Lib.Math.max.name, Cond.static Lib.Math.max.name, Cond.code Lib.Math.max.name Lib.Math.max.code 2 (some .int), Cond.methodLink RX1 87 yX1_claimOf, Cond.methodLink RX7 113 yX7_bit, Cond.methodLink RL 22 yX8_of, Cond.instanceMethod yX8_of, Cond.selects RX8 yX8_of yX8_of, Cond.code yX8_of cX8_of 3 (some .int)]
def wsL_law_r10 : List Cond := [Cond.methodLink RX8 130 yX8_isPerson, Cond.instanceMethod yX8_isPerson, Cond.selects RX8 yX8_isPerson yX8_isPerson, Cond.code yX8_isPerson cX8_isPerson 2 (some .boolean), Cond.methodLink RX8 102 yX8_personIs, Cond.instanceMethod yX8_personIs, Cond.selects RX8 yX8_personIs yX8_personIs, Cond.code yX8_personIs cX8_personIs 3 (some .int), Cond.methodLink RX8 133 yX8_isOver, Cond.instanceMethod yX8_isOver, Cond.selects RX8 yX8_isOver yX8_isOver, Cond.code yX8_isOver cX8_isOver 1 (some .boolean), Cond.methodLink RX8 113 yX8_claimOf, Cond.instanceMethod yX8_claimOf, Cond.selects RX8 yX8_claimOf yX8_claimOf, Cond.code yX8_claimOf cX8_claimOf 5 (some .int), Cond.methodLink RX8 127 yX8_hasShadow, Cond.instanceMethod yX8_hasShadow, Cond.selects RX8 yX8_hasShadow yX8_hasShadow, Cond.code yX8_hasShadow cX8_hasShadow 4 (some .boolean), Cond.methodLink RX8 120 yX8_isLit, Cond.instanceMethod yX8_isLit, Cond.selects RX8 yX8_isLit yX8_isLit, Cond.code yX8_isLit cX8_isLit 2 (some .boolean)]
def wsL_law_r11 : List Cond := [Cond.methodLink RX8 116 yX8_has, Cond.static yX8_has, Cond.code yX8_has cX8_has 2 (some .boolean), Cond.methodLink RX8 123 yX8_firstOf, Cond.instanceMethod yX8_firstOf, Cond.selects RX8 yX8_firstOf yX8_firstOf, Cond.code yX8_firstOf cX8_firstOf 6 (some .int), Cond.methodLink RX8 105 Lib.Math.min.name, Cond.methodLink RX8 110 Lib.Math.max.name, Cond.methodLink RL 23 yX7_change, Cond.instanceMethod yX7_change, Cond.selects RX7 yX7_change yX7_change, Cond.code yX7_change cX7_change 4 (some .int), Cond.constant RX7 120 (65535), Cond.methodLink RX7 116 yX7_replace, Cond.instanceMethod yX7_replace, Cond.selects RX7 yX7_replace yX7_replace, Cond.code yX7_replace cX7_replace 6 (some .int), Cond.methodLink RL 27 yX8_change, Cond.instanceMethod yX8_change, Cond.selects RX8 yX8_change yX8_change, Cond.code yX8_change cX8_change 5 (some .int), Cond.methodLink RX8 137 yX8_isHours, Cond.static yX8_isHours]
def wsL_law_r12 : List Cond := [Cond.code yX8_isHours cX8_isHours 1 (some .boolean), Cond.methodLink RX8 140 yX8_become, Cond.instanceMethod yX8_become, Cond.selects RX8 yX8_become yX8_become, Cond.code yX8_become cX8_become 4 (some .int), Cond.methodLink RL 28 yX7_share, Cond.instanceMethod yX7_share, Cond.selects RX7 yX7_share yX7_share, Cond.code yX7_share cX7_share 3 (some .int), Cond.methodLink RX7 121 yX1_areTwo, Cond.instanceMethod yX1_areTwo, Cond.selects RX1 yX1_areTwo yX1_areTwo, Cond.code yX1_areTwo cX1_areTwo 3 (some .boolean), Cond.methodLink RX1 56 yX1_isPerson, Cond.methodLink RX7 124 yX1_join, Cond.instanceMethod yX1_join, Cond.selects RX1 yX1_join yX1_join, Cond.code yX1_join cX1_join 3 none, Cond.methodLink RX1 64 yX1_areTwo, Cond.methodLink RX1 68 yX1_separate, Cond.instanceMethod yX1_separate, Cond.selects RX1 yX1_separate yX1_separate, Cond.code yX1_separate cX1_separate 2 none, Cond.methodLink RL 31 yX8_share]
def wsL_law_r13 : List Cond := [Cond.instanceMethod yX8_share, Cond.selects RX8 yX8_share yX8_share, Cond.code yX8_share cX8_share 3 (some .int), Cond.methodLink RX8 146 yX8_areTwo, Cond.instanceMethod yX8_areTwo, Cond.selects RX8 yX8_areTwo yX8_areTwo, Cond.code yX8_areTwo cX8_areTwo 3 (some .boolean), Cond.methodLink RX8 149 yX8_areMates, Cond.instanceMethod yX8_areMates, Cond.selects RX8 yX8_areMates yX8_areMates, Cond.code yX8_areMates cX8_areMates 4 (some .int), Cond.methodLink RX8 143 yX8_parts, Cond.instanceMethod yX8_parts, Cond.selects RX8 yX8_parts yX8_parts, Cond.code yX8_parts cX8_parts 3 (some .int), Cond.methodLink RL 32 yX7_part, Cond.instanceMethod yX7_part, Cond.selects RX7 yX7_part yX7_part, Cond.code yX7_part cX7_part 3 (some .int), Cond.methodLink RX7 128 yX1_separate, Cond.methodLink RL 35 yX8_part, Cond.instanceMethod yX8_part, Cond.selects RX8 yX8_part yX8_part, Cond.code yX8_part cX8_part 2 (some .int)]
def wsL_law_r14 : List Cond := [Cond.constant RX8 152 (-1000004), Cond.methodLink RL 36 yX7_light, Cond.instanceMethod yX7_light, Cond.selects RX7 yX7_light yX7_light, Cond.code yX7_light cX7_light 3 (some .int), Cond.fieldLink RX7 132 "SharedShadow$Land" "lit" "I", Cond.methodLink RL 39 yX8_light, Cond.instanceMethod yX8_light, Cond.selects RX8 yX8_light yX8_light, Cond.code yX8_light cX8_light 2 (some .int), Cond.methodLink RL 40 yX7_claim, Cond.instanceMethod yX7_claim, Cond.selects RX7 yX7_claim yX7_claim, Cond.code yX7_claim cX7_claim 3 (some .int), Cond.methodLink RL 43 yX8_claim, Cond.instanceMethod yX8_claim, Cond.selects RX8 yX8_claim yX8_claim, Cond.code yX8_claim cX8_claim 3 (some .int), Cond.methodLink RL 44 yX7_go, Cond.instanceMethod yX7_go, Cond.selects RX7 yX7_go yX7_go, Cond.code yX7_go cX7_go 2 (some .int), Cond.fieldLink RX7 138 "SharedShadow$Land" "wereMet" "I", Cond.methodLink RX7 135 yX1_passHours]
def wsL_law_r15 : List Cond := [Cond.instanceMethod yX1_passHours, Cond.selects RX1 yX1_passHours yX1_passHours, Cond.code yX1_passHours cX1_passHours 3 none, Cond.methodLink RX1 97 yX1_havers, Cond.methodLink RX1 101 yX1_passHour, Cond.instanceMethod yX1_passHour, Cond.selects RX1 yX1_passHour yX1_passHour, Cond.code yX1_passHour cX1_passHour 5 none, Cond.methodLink RX1 104 yX1_tally, Cond.instanceMethod yX1_tally, Cond.selects RX1 yX1_tally yX1_tally, Cond.code yX1_tally cX1_tally 2 none, Cond.methodLink RL 47 yX8_go, Cond.instanceMethod yX8_go, Cond.selects RX8 yX8_go yX8_go, Cond.code yX8_go cX8_go 2 (some .int), Cond.constant RX8 159 (-1000005), Cond.methodLink RX8 160 yX8_hoursGo, Cond.instanceMethod yX8_hoursGo, Cond.selects RX8 yX8_hoursGo yX8_hoursGo, Cond.code yX8_hoursGo cX8_hoursGo 3 (some .int), Cond.methodLink RX8 156 yX8_hour, Cond.instanceMethod yX8_hour, Cond.selects RX8 yX8_hour yX8_hour]
def wsL_law_r16 : List Cond := [Cond.code yX8_hour cX8_hour 7 none, Cond.methodLink RX8 153 yX8_whoHave, Cond.instanceMethod yX8_whoHave, Cond.selects RX8 yX8_whoHave yX8_whoHave, Cond.code yX8_whoHave cX8_whoHave 4 (some .int), Cond.methodLink RL 48 yX7_at, Cond.instanceMethod yX7_at, Cond.selects RX7 yX7_at yX7_at, Cond.code yX7_at cX7_at 3 (some .int), Cond.methodLink RL 51 yX8_at_, Cond.instanceMethod yX8_at_, Cond.selects RX8 yX8_at_ yX8_at_, Cond.code yX8_at_ cX8_at_ 2 (some .int), Cond.methodLink RL 52 yX7_now, Cond.instanceMethod yX7_now, Cond.selects RX7 yX7_now yX7_now, Cond.code yX7_now cX7_now 2 (some .int), Cond.fieldLink RX7 141 "SharedShadow$Land" "wereMissed" "I", Cond.methodLink RL 55 yX8_now, Cond.instanceMethod yX8_now, Cond.selects RX8 yX8_now yX8_now, Cond.code yX8_now cX8_now 2 (some .int), Cond.methodLink RL 56 yX7_met, Cond.instanceMethod yX7_met]
def wsL_law_r17 : List Cond := [Cond.selects RX7 yX7_met yX7_met, Cond.code yX7_met cX7_met 2 (some .int), Cond.methodLink RX7 144 yX4_see, Cond.instanceMethod yX4_see, Cond.selects RX4 yX4_see yX4_see, Cond.code yX4_see cX4_see 2 none, Cond.methodLink RX4 29 yX4_begin, Cond.instanceMethod yX4_begin, Cond.selects RX4 yX4_begin yX4_begin, Cond.code yX4_begin cX4_begin 2 none, Cond.fieldLink RX4 39 "SharedShadow$Land" "hour" "I", Cond.methodLink RX4 36 yX1_become, Cond.instanceMethod yX1_become, Cond.selects RX1 yX1_become yX1_become, Cond.code yX1_become cX1_become 2 none, Cond.methodLink RX1 50 arraycopyName, Cond.native arraycopyName, Cond.static arraycopyName, Cond.initialized "java/lang/System", Cond.methodLink RX4 42 yX1_hoursLeft, Cond.instanceMethod yX1_hoursLeft, Cond.selects RX1 yX1_hoursLeft yX1_hoursLeft, Cond.code yX1_hoursLeft cX1_hoursLeft 1 (some .int), Cond.methodLink RX4 33 yX4_run]
def wsL_law_r18 : List Cond := [Cond.instanceMethod yX4_run, Cond.selects RX4 yX4_run yX4_run, Cond.code yX4_run cX4_run 2 none, Cond.methodLink RX4 46 yX1_havers, Cond.methodLink RX4 49 yX1_passHour, Cond.methodLink RX7 148 yX4_metOf, Cond.instanceMethod yX4_metOf, Cond.selects RX4 yX4_metOf yX4_metOf, Cond.code yX4_metOf cX4_metOf 2 (some .int), Cond.fieldLink RX4 57 "SharedShadow$Land" "needs" "[I", Cond.methodLink RX4 67 yX1_isPerson, Cond.methodLink RX4 71 yX4_servedOf, Cond.instanceMethod yX4_servedOf, Cond.selects RX4 yX4_servedOf yX4_servedOf, Cond.code yX4_servedOf cX4_servedOf 2 (some .int), Cond.fieldLink RX4 60 "SharedShadow$Land" "lit" "I", Cond.methodLink RX4 63 yX4_shadeOf, Cond.instanceMethod yX4_shadeOf, Cond.selects RX4 yX4_shadeOf yX4_shadeOf, Cond.code yX4_shadeOf cX4_shadeOf 4 (some .int), Cond.methodLink RX4 74 yJ6_bitCount_0f7a4, Cond.static yJ6_bitCount_0f7a4, Cond.initialized RJ6, Cond.code yJ6_bitCount_0f7a4 cJ6_bitCount_0f7a4 1 (some .int)]
def wsL_law_r19 : List Cond := [Cond.constant RJ6 265 (1431655765), Cond.constant RJ6 266 (858993459), Cond.constant RJ6 267 (252645135), Cond.methodLink RL 59 yX8_met, Cond.instanceMethod yX8_met, Cond.selects RX8 yX8_met yX8_met, Cond.code yX8_met cX8_met 2 (some .int), Cond.fieldLink RX8 176 "SharedShadowModel" "metThen" "I", Cond.methodLink RX8 179 yX8_findRest, Cond.instanceMethod yX8_findRest, Cond.selects RX8 yX8_findRest yX8_findRest, Cond.code yX8_findRest cX8_findRest 4 none, Cond.fieldLink RX8 163 "SharedShadowModel" "servedThen" "I", Cond.fieldLink RX8 167 "SharedShadowModel" "shadeThen" "I", Cond.fieldLink RX8 170 "SharedShadowModel" "sunThen" "I", Cond.methodLink RX8 74 yX8_copyRow, Cond.static yX8_copyRow, Cond.code yX8_copyRow cX8_copyRow 3 none, Cond.methodLink RX8 173 yX8_bits, Cond.static yX8_bits, Cond.code yX8_bits cX8_bits 3 (some .int), Cond.methodLink RL 60 yX7_cold, Cond.instanceMethod yX7_cold, Cond.selects RX7 yX7_cold yX7_cold]
def wsL_law_r20 : List Cond := [Cond.code yX7_cold cX7_cold 3 (some .int), Cond.methodLink RX7 151 yX4_firstCold, Cond.instanceMethod yX4_firstCold, Cond.selects RX4 yX4_firstCold yX4_firstCold, Cond.code yX4_firstCold cX4_firstCold 4 (some .int), Cond.methodLink RL 63 yX8_cold, Cond.instanceMethod yX8_cold, Cond.selects RX8 yX8_cold yX8_cold, Cond.code yX8_cold cX8_cold 4 (some .int), Cond.methodLink RX8 184 yX8_restHours, Cond.instanceMethod yX8_restHours, Cond.selects RX8 yX8_restHours yX8_restHours, Cond.code yX8_restHours cX8_restHours 1 (some .int), Cond.constant RX8 183 (65536), Cond.methodLink RL 64 yX7_shade, Cond.instanceMethod yX7_shade, Cond.selects RX7 yX7_shade yX7_shade, Cond.code yX7_shade cX7_shade 2 (some .int), Cond.methodLink RX7 154 yX4_shadeOf, Cond.methodLink RL 67 yX8_shade, Cond.instanceMethod yX8_shade, Cond.selects RX8 yX8_shade yX8_shade, Cond.code yX8_shade cX8_shade 2 (some .int), Cond.methodLink RL 68 yX7_all]
def wsL_law_r21 : List Cond := [Cond.instanceMethod yX7_all, Cond.selects RX7 yX7_all yX7_all, Cond.code yX7_all cX7_all 1 (some .int), Cond.methodLink RX7 157 yX4_metOfAll, Cond.instanceMethod yX4_metOfAll, Cond.selects RX4 yX4_metOfAll yX4_metOfAll, Cond.code yX4_metOfAll cX4_metOfAll 3 (some .int), Cond.fieldLink RX4 79 "SharedShadow$Land" "people" "I", Cond.methodLink RX4 82 yX4_metOf, Cond.methodLink RL 72 yX8_all, Cond.instanceMethod yX8_all, Cond.selects RX8 yX8_all yX8_all, Cond.code yX8_all cX8_all 1 (some .int), Cond.methodLink RX8 191 yX8_metByAll, Cond.instanceMethod yX8_metByAll, Cond.selects RX8 yX8_metByAll yX8_metByAll, Cond.code yX8_metByAll cX8_metByAll 1 (some .int), Cond.methodLink RX8 188 yX8_putBack, Cond.instanceMethod yX8_putBack, Cond.selects RX8 yX8_putBack yX8_putBack, Cond.code yX8_putBack cX8_putBack 2 (some .int), Cond.methodLink RL 73 yX7_tan, Cond.instanceMethod yX7_tan, Cond.selects RX7 yX7_tan yX7_tan]
def wsL_law_r22 : List Cond := [Cond.code yX7_tan cX7_tan 2 (some .int), Cond.methodLink RX7 160 yX4_sunOf, Cond.instanceMethod yX4_sunOf, Cond.selects RX4 yX4_sunOf yX4_sunOf, Cond.code yX4_sunOf cX4_sunOf 2 (some .int), Cond.fieldLink RX4 85 "SharedShadow$Land" "sun" "[I", Cond.methodLink RL 76 yX8_tan, Cond.instanceMethod yX8_tan, Cond.selects RX8 yX8_tan yX8_tan, Cond.code yX8_tan cX8_tan 2 (some .int), Cond.methodLink RL 77 yX7_strong, Cond.instanceMethod yX7_strong, Cond.selects RX7 yX7_strong yX7_strong, Cond.code yX7_strong cX7_strong 3 (some .int), Cond.fieldLink RX7 166 "SharedShadow$Rest" "to" "LSharedShadow$Land;", Cond.methodLink RX7 163 yX4_begin, Cond.methodLink RX7 169 yX4_run, Cond.methodLink RL 80 yX8_strong, Cond.instanceMethod yX8_strong, Cond.selects RX8 yX8_strong yX8_strong, Cond.code yX8_strong cX8_strong 5 (some .int), Cond.methodLink RL 81 yX7_kindFor, Cond.instanceMethod yX7_kindFor, Cond.selects RX7 yX7_kindFor yX7_kindFor]
def wsL_law_r23 : List Cond := [Cond.code yX7_kindFor cX7_kindFor 5 (some .int), Cond.methodLink RL 84 yX8_kindFor, Cond.instanceMethod yX8_kindFor, Cond.selects RX8 yX8_kindFor yX8_kindFor, Cond.code yX8_kindFor cX8_kindFor 6 (some .int), Cond.methodLink RL 85 yX7_cloud, Cond.instanceMethod yX7_cloud, Cond.selects RX7 yX7_cloud yX7_cloud, Cond.code yX7_cloud cX7_cloud 4 (some .int), Cond.methodLink RL 88 yX8_cloud, Cond.instanceMethod yX8_cloud, Cond.selects RX8 yX8_cloud yX8_cloud, Cond.code yX8_cloud cX8_cloud 6 (some .int), Cond.methodLink RL 89 yX7_agree, Cond.instanceMethod yX7_agree, Cond.selects RX7 yX7_agree yX7_agree, Cond.code yX7_agree cX7_agree 3 (some .int), Cond.methodLink RX7 172 yX0_make, Cond.instanceMethod yX0_make, Cond.selects RX0 yX0_make yX0_make, Cond.code yX0_make cX0_make 4 none, Cond.methodLink RX0 37 Lib.Math.min.name, Cond.methodLink RX0 43 Lib.Math.max.name, Cond.fieldLink RX0 46 "SharedShadow$Land" "needs" "[I"]
def wsL_law_r24 : List Cond := [Cond.fieldLink RX0 51 "SharedShadow$Land" "lit" "I", Cond.methodLink RX0 31 yX1_areTwo, Cond.methodLink RX0 47 yX1_hoursLeft, Cond.methodLink RX0 54 yX0_weighBehind, Cond.instanceMethod yX0_weighBehind, Cond.selects RX0 yX0_weighBehind yX0_weighBehind, Cond.code yX0_weighBehind cX0_weighBehind 5 none, Cond.methodLink RX0 60 yX0_worthOf, Cond.instanceMethod yX0_worthOf, Cond.selects RX0 yX0_worthOf yX0_worthOf, Cond.code yX0_worthOf cX0_worthOf 3 (some .int), Cond.methodLink RX0 57 yX0_choose, Cond.instanceMethod yX0_choose, Cond.selects RX0 yX0_choose yX0_choose, Cond.code yX0_choose cX0_choose 5 none, Cond.methodLink RX7 176 yX0_metOfBoth, Cond.instanceMethod yX0_metOfBoth, Cond.selects RX0 yX0_metOfBoth yX0_metOfBoth, Cond.code yX0_metOfBoth cX0_metOfBoth 1 (some .int), Cond.methodLink RX0 75 yX0_metOfSide, Cond.instanceMethod yX0_metOfSide, Cond.selects RX0 yX0_metOfSide yX0_metOfSide, Cond.code yX0_metOfSide cX0_metOfSide 2 (some .int), Cond.methodLink RX0 69 yJ6_bitCount_0f7a4]
def wsL_law_r25 : List Cond := [Cond.methodLink RL 92 yX8_agree, Cond.instanceMethod yX8_agree, Cond.selects RX8 yX8_agree yX8_agree, Cond.code yX8_agree cX8_agree 3 (some .int), Cond.methodLink RX8 205 yX8_meets, Cond.instanceMethod yX8_meets, Cond.selects RX8 yX8_meets yX8_meets, Cond.code yX8_meets cX8_meets 5 (some .int), Cond.methodLink RX8 202 yX8_needsIn, Cond.instanceMethod yX8_needsIn, Cond.selects RX8 yX8_needsIn yX8_needsIn, Cond.code yX8_needsIn cX8_needsIn 3 (some .int), Cond.methodLink RL 93 yX7_changes, Cond.instanceMethod yX7_changes, Cond.selects RX7 yX7_changes yX7_changes, Cond.code yX7_changes cX7_changes 3 (some .int), Cond.methodLink RX7 179 yX0_countChanges, Cond.instanceMethod yX0_countChanges, Cond.selects RX0 yX0_countChanges yX0_countChanges, Cond.code yX0_countChanges cX0_countChanges 5 (some .int), Cond.methodLink RL 96 yX8_changes, Cond.instanceMethod yX8_changes, Cond.selects RX8 yX8_changes yX8_changes, Cond.code yX8_changes cX8_changes 3 (some .int)]
def wsL_law_r26 : List Cond := [Cond.methodLink RX8 208 yX8_findAgreement, Cond.instanceMethod yX8_findAgreement, Cond.selects RX8 yX8_findAgreement yX8_findAgreement, Cond.code yX8_findAgreement cX8_findAgreement 7 (some .int), Cond.constant RX8 194 (1000000), Cond.methodLink RX8 195 yX8_mayHave, Cond.instanceMethod yX8_mayHave, Cond.selects RX8 yX8_mayHave yX8_mayHave, Cond.code yX8_mayHave cX8_mayHave 7 (some .boolean), Cond.methodLink RX8 199 yX8_changesWith, Cond.instanceMethod yX8_changesWith, Cond.selects RX8 yX8_changesWith yX8_changesWith, Cond.code yX8_changesWith cX8_changesWith 4 (some .int), Cond.methodLink RL 97 yX7_holder, Cond.instanceMethod yX7_holder, Cond.selects RX7 yX7_holder yX7_holder, Cond.code yX7_holder cX7_holder 5 (some .int), Cond.methodLink RX7 182 yX0_holderAt, Cond.instanceMethod yX0_holderAt, Cond.selects RX0 yX0_holderAt yX0_holderAt, Cond.code yX0_holderAt cX0_holderAt 2 (some .int), Cond.methodLink RL 100 yX8_holder, Cond.instanceMethod yX8_holder, Cond.selects RX8 yX8_holder yX8_holder]
def wsL_law_r27 : List Cond := [Cond.code yX8_holder cX8_holder 6 (some .int), Cond.methodLink RX8 211 yX8_heldByLess, Cond.instanceMethod yX8_heldByLess, Cond.selects RX8 yX8_heldByLess yX8_heldByLess, Cond.code yX8_heldByLess cX8_heldByLess 7 (some .int), Cond.methodLink RL 101 yX7_gain, Cond.instanceMethod yX7_gain, Cond.selects RX7 yX7_gain yX7_gain, Cond.code yX7_gain cX7_gain 3 (some .int), Cond.methodLink RL 104 yX8_gain, Cond.instanceMethod yX8_gain, Cond.selects RX8 yX8_gain yX8_gain, Cond.code yX8_gain cX8_gain 6 (some .int), Cond.methodLink RL 105 yX7_pairs, Cond.instanceMethod yX7_pairs, Cond.selects RX7 yX7_pairs yX7_pairs, Cond.code yX7_pairs cX7_pairs 1 (some .int), Cond.methodLink RX7 185 yX7_weighByAgreements, Cond.instanceMethod yX7_weighByAgreements, Cond.selects RX7 yX7_weighByAgreements yX7_weighByAgreements, Cond.code yX7_weighByAgreements cX7_weighByAgreements 3 none, Cond.fieldLink RX7 200 "SharedShadow$Land" "people" "I", Cond.methodLink RX7 307 yX1_hoursLeft, Cond.methodLink RX7 310 yJ6_bitCount_0f7a4]
def wsL_law_r28 : List Cond := [Cond.methodLink RX7 315 yX2_value, Cond.instanceMethod yX2_value, Cond.selects RX2 yX2_value yX2_value, Cond.code yX2_value cX2_value 4 none, Cond.methodLink RX7 188 yX1_everybody, Cond.instanceMethod yX1_everybody, Cond.selects RX1 yX1_everybody yX1_everybody, Cond.code yX1_everybody cX1_everybody 1 (some .int), Cond.methodLink RX7 319 yX2_weigh, Cond.instanceMethod yX2_weigh, Cond.selects RX2 yX2_weigh yX2_weigh, Cond.code yX2_weigh cX2_weigh 3 none, Cond.methodLink RX2 34 yX2_weighSet, Cond.instanceMethod yX2_weighSet, Cond.selects RX2 yX2_weighSet yX2_weighSet, Cond.code yX2_weighSet cX2_weighSet 5 none, Cond.methodLink RX2 38 yX2_leastOf, Cond.static yX2_leastOf, Cond.code yX2_leastOf cX2_leastOf 2 (some .int), Cond.methodLink RX2 42 yX2_worthWith, Cond.instanceMethod yX2_worthWith, Cond.selects RX2 yX2_worthWith yX2_worthWith, Cond.code yX2_worthWith cX2_worthWith 5 (some .int), Cond.methodLink RX2 52 yJ6_bitCount_0f7a4]
def wsL_law_r29 : List Cond := [Cond.methodLink RX2 57 yX2_valueOf, Cond.instanceMethod yX2_valueOf, Cond.selects RX2 yX2_valueOf yX2_valueOf, Cond.code yX2_valueOf cX2_valueOf 3 (some .int), Cond.methodLink RX2 25 Lib.Math.min.name, Cond.methodLink RX2 31 Lib.Math.max.name, Cond.methodLink RX2 46 yX2_without, Cond.static yX2_without, Cond.code yX2_without cX2_without 3 (some .int), Cond.methodLink RX7 191 yX2_bestOf, Cond.instanceMethod yX2_bestOf, Cond.selects RX2 yX2_bestOf yX2_bestOf, Cond.code yX2_bestOf cX2_bestOf 2 (some .int), Cond.methodLink RL 108 yX8_pairs, Cond.instanceMethod yX8_pairs, Cond.selects RX8 yX8_pairs yX8_pairs, Cond.code yX8_pairs cX8_pairs 1 (some .int), Cond.methodLink RX8 223 yX8_findPairs, Cond.instanceMethod yX8_findPairs, Cond.selects RX8 yX8_findPairs yX8_findPairs, Cond.code yX8_findPairs cX8_findPairs 5 (some .int), Cond.methodLink RX8 217 yX8_mayBe, Cond.instanceMethod yX8_mayBe, Cond.selects RX8 yX8_mayBe yX8_mayBe]
def wsL_law_r30 : List Cond := [Cond.code yX8_mayBe cX8_mayBe 3 (some .boolean), Cond.methodLink RX8 214 yX8_lowest, Cond.static yX8_lowest, Cond.code yX8_lowest cX8_lowest 2 (some .int), Cond.methodLink RX8 220 yX8_mostWith, Cond.instanceMethod yX8_mostWith, Cond.selects RX8 yX8_mostWith yX8_mostWith, Cond.code yX8_mostWith cX8_mostWith 4 (some .int), Cond.methodLink RL 109 yX7_mate, Cond.instanceMethod yX7_mate, Cond.selects RX7 yX7_mate yX7_mate, Cond.code yX7_mate cX7_mate 2 (some .int), Cond.methodLink RX7 194 yX2_firstMateOf, Cond.instanceMethod yX2_firstMateOf, Cond.selects RX2 yX2_firstMateOf yX2_firstMateOf, Cond.code yX2_firstMateOf cX2_firstMateOf 7 (some .int), Cond.methodLink RX2 60 yX2_firstBest, Cond.instanceMethod yX2_firstBest, Cond.selects RX2 yX2_firstBest yX2_firstBest, Cond.code yX2_firstBest cX2_firstBest 4 (some .int), Cond.methodLink RL 112 yX8_mate, Cond.instanceMethod yX8_mate, Cond.selects RX8 yX8_mate yX8_mate, Cond.code yX8_mate cX8_mate 6 (some .int)]
def wsL_law_r31 : List Cond := [Cond.methodLink RL 113 yX7_ways, Cond.instanceMethod yX7_ways, Cond.selects RX7 yX7_ways yX7_ways, Cond.code yX7_ways cX7_ways 1 (some .int), Cond.methodLink RX7 197 yX2_waysOf, Cond.instanceMethod yX2_waysOf, Cond.selects RX2 yX2_waysOf yX2_waysOf, Cond.code yX2_waysOf cX2_waysOf 2 (some .int), Cond.methodLink RL 116 yX8_ways, Cond.instanceMethod yX8_ways, Cond.selects RX8 yX8_ways yX8_ways, Cond.code yX8_ways cX8_ways 1 (some .int), Cond.methodLink RL 117 yX7_broken, Cond.instanceMethod yX7_broken, Cond.selects RX7 yX7_broken yX7_broken, Cond.code yX7_broken cX7_broken 3 (some .int), Cond.methodLink RX7 203 yX7_wouldRatherAgree, Cond.instanceMethod yX7_wouldRatherAgree, Cond.selects RX7 yX7_wouldRatherAgree yX7_wouldRatherAgree, Cond.code yX7_wouldRatherAgree cX7_wouldRatherAgree 3 (some .boolean), Cond.methodLink RX7 329 yX0_metOfSide, Cond.methodLink RL 120 yX8_broken, Cond.instanceMethod yX8_broken, Cond.selects RX8 yX8_broken yX8_broken]
def wsL_law_r32 : List Cond := [Cond.code yX8_broken cX8_broken 4 (some .int), Cond.methodLink RX8 226 yX8_wouldBreak, Cond.instanceMethod yX8_wouldBreak, Cond.selects RX8 yX8_wouldBreak yX8_wouldBreak, Cond.code yX8_wouldBreak cX8_wouldBreak 7 (some .boolean), Cond.methodLink RL 121 yX7_fits, Cond.instanceMethod yX7_fits, Cond.selects RX7 yX7_fits yX7_fits, Cond.code yX7_fits cX7_fits 3 (some .int), Cond.methodLink RX7 206 yX7_lackOf, Cond.instanceMethod yX7_lackOf, Cond.selects RX7 yX7_lackOf yX7_lackOf, Cond.code yX7_lackOf cX7_lackOf 2 (some .int), Cond.methodLink RX7 259 yX7_isSheet, Cond.static yX7_isSheet, Cond.code yX7_isSheet cX7_isSheet 1 (some .boolean), Cond.methodLink RX7 269 yX5_isMissing, Cond.instanceMethod yX5_isMissing, Cond.selects RX5 yX5_isMissing yX5_isMissing, Cond.code yX5_isMissing cX5_isMissing 1 (some .boolean), Cond.methodLink RX7 209 yX7_weighByShade, Cond.instanceMethod yX7_weighByShade, Cond.selects RX7 yX7_weighByShade yX7_weighByShade, Cond.code yX7_weighByShade cX7_weighByShade 4 (some .boolean)]
def wsL_law_r33 : List Cond := [Cond.methodLink RX7 322 yX5_tellsSetsOf, Cond.instanceMethod yX5_tellsSetsOf, Cond.selects RX5 yX5_tellsSetsOf yX5_tellsSetsOf, Cond.code yX5_tellsSetsOf cX5_tellsSetsOf 4 (some .boolean), Cond.methodLink RX7 325 yX4_isShadeOf, Cond.instanceMethod yX4_isShadeOf, Cond.selects RX4 yX4_isShadeOf yX4_isShadeOf, Cond.code yX4_isShadeOf cX4_isShadeOf 4 (some .boolean), Cond.fieldLink RX4 88 "SharedShadow$Sheet" "length" "I", Cond.fieldLink RX4 93 "SharedShadow$Sheet" "numbers" "[I", Cond.methodLink RL 124 yX8_fits, Cond.instanceMethod yX8_fits, Cond.selects RX8 yX8_fits yX8_fits, Cond.code yX8_fits cX8_fits 2 (some .int), Cond.constant RX8 241 (-1000006), Cond.methodLink RX8 238 yX8_isSheet, Cond.static yX8_isSheet, Cond.code yX8_isSheet cX8_isSheet 1 (some .boolean), Cond.methodLink RX8 242 yX8_findSeen, Cond.instanceMethod yX8_findSeen, Cond.selects RX8 yX8_findSeen yX8_findSeen, Cond.code yX8_findSeen cX8_findSeen 5 (some .int), Cond.fieldLink RX8 232 "SharedShadowModel" "mayFound" "I", Cond.methodLink RX8 235 yX8_seenWays]
def wsL_law_r34 : List Cond := [Cond.instanceMethod yX8_seenWays, Cond.selects RX8 yX8_seenWays yX8_seenWays, Cond.code yX8_seenWays cX8_seenWays 7 (some .int), Cond.methodLink RX8 229 yX8_isSeen, Cond.instanceMethod yX8_isSeen, Cond.selects RX8 yX8_isSeen yX8_isSeen, Cond.code yX8_isSeen cX8_isSeen 4 (some .boolean), Cond.methodLink RL 125 yX7_may, Cond.instanceMethod yX7_may, Cond.selects RX7 yX7_may yX7_may, Cond.code yX7_may cX7_may 4 (some .int), Cond.methodLink RX7 213 yX2_matesOf, Cond.instanceMethod yX2_matesOf, Cond.selects RX2 yX2_matesOf yX2_matesOf, Cond.code yX2_matesOf cX2_matesOf 6 (some .int), Cond.methodLink RL 128 yX8_may, Cond.instanceMethod yX8_may, Cond.selects RX8 yX8_may yX8_may, Cond.code yX8_may cX8_may 3 (some .int), Cond.methodLink RL 129 yX7_duel, Cond.instanceMethod yX7_duel, Cond.selects RX7 yX7_duel yX7_duel, Cond.code yX7_duel cX7_duel 5 (some .int), Cond.methodLink RX7 216 Lib.Math.min.name]
def wsL_law_r35 : List Cond := [Cond.methodLink RX7 221 Lib.Math.max.name, Cond.methodLink RX7 224 yX7_duelForce, Cond.instanceMethod yX7_duelForce, Cond.selects RX7 yX7_duelForce yX7_duelForce, Cond.code yX7_duelForce cX7_duelForce 4 (some .int), Cond.methodLink RX7 332 yX1_stronger, Cond.methodLink RL 132 yX8_duel, Cond.instanceMethod yX8_duel, Cond.selects RX8 yX8_duel yX8_duel, Cond.code yX8_duel cX8_duel 6 (some .int), Cond.methodLink RX8 245 yX8_mightOf, Cond.instanceMethod yX8_mightOf, Cond.selects RX8 yX8_mightOf yX8_mightOf, Cond.code yX8_mightOf cX8_mightOf 3 (some .int), Cond.methodLink RL 133 yX7_lanterns, Cond.instanceMethod yX7_lanterns, Cond.selects RX7 yX7_lanterns yX7_lanterns, Cond.code yX7_lanterns cX7_lanterns 6 (some .long), Cond.methodLink RX7 227 yX7_commonDivisor, Cond.static yX7_commonDivisor, Cond.code yX7_commonDivisor cX7_commonDivisor 3 (some .int), Cond.methodLink RX7 230 yX7_power, Cond.static yX7_power, Cond.code yX7_power cX7_power 5 (some .long)]
def wsL_law_r36 : List Cond := [Cond.methodLink RL 137 yX8_lanterns, Cond.instanceMethod yX8_lanterns, Cond.selects RX8 yX8_lanterns yX8_lanterns, Cond.code yX8_lanterns cX8_lanterns 10 (some .long), Cond.methodLink RX8 248 yX8_common, Cond.static yX8_common, Cond.code yX8_common cX8_common 5 (some .int), Cond.methodLink RL 138 yX7_days, Cond.instanceMethod yX7_days, Cond.selects RX7 yX7_days yX7_days, Cond.code yX7_days cX7_days 3 (some .int), Cond.constant RX7 234 (90000), Cond.methodLink RX7 235 yX1_draw, Cond.instanceMethod yX1_draw, Cond.selects RX1 yX1_draw yX1_draw, Cond.code yX1_draw cX1_draw 1 (some .int), Cond.constant RX1 108 (1103515245), Cond.methodLink RL 141 yX8_days, Cond.instanceMethod yX8_days, Cond.selects RX8 yX8_days yX8_days, Cond.code yX8_days cX8_days 4 (some .int), Cond.constant RX8 252 (90000), Cond.methodLink RX8 253 yX8_drawn, Cond.instanceMethod yX8_drawn]
def wsL_law_r37 : List Cond := [Cond.selects RX8 yX8_drawn yX8_drawn, Cond.code yX8_drawn cX8_drawn 1 (some .int), Cond.constant RX8 251 (1103515245), Cond.methodLink RL 142 yX7_seed, Cond.instanceMethod yX7_seed, Cond.selects RX7 yX7_seed yX7_seed, Cond.code yX7_seed cX7_seed 3 (some .int), Cond.fieldLink RX7 238 "SharedShadow$Land" "drawn" "I", Cond.methodLink RL 145 yX8_seed, Cond.instanceMethod yX8_seed, Cond.selects RX8 yX8_seed yX8_seed, Cond.code yX8_seed cX8_seed 2 (some .int), Cond.methodLink RL 146 yX7_feed, Cond.instanceMethod yX7_feed, Cond.selects RX7 yX7_feed yX7_feed, Cond.code yX7_feed cX7_feed 4 (some .int), Cond.fieldLink RX7 243 "SharedShadow$Tape" "length" "I", Cond.methodLink RX7 246 yX6_append, Cond.instanceMethod yX6_append, Cond.selects RX6 yX6_append yX6_append, Cond.code yX6_append cX6_append 2 none, Cond.methodLink RL 149 yX8_feed, Cond.instanceMethod yX8_feed, Cond.selects RX8 yX8_feed yX8_feed]
def wsL_law_r38 : List Cond := [Cond.code yX8_feed cX8_feed 4 (some .int), Cond.fieldLink RX8 256 "SharedShadowModel" "taped" "I", Cond.methodLink RL 150 yX7_wipe, Cond.instanceMethod yX7_wipe, Cond.selects RX7 yX7_wipe yX7_wipe, Cond.code yX7_wipe cX7_wipe 2 (some .int), Cond.methodLink RL 153 yX8_wipe, Cond.instanceMethod yX8_wipe, Cond.selects RX8 yX8_wipe yX8_wipe, Cond.code yX8_wipe cX8_wipe 2 (some .int), Cond.methodLink RL 154 yX7_text, Cond.instanceMethod yX7_text, Cond.selects RX7 yX7_text yX7_text, Cond.code yX7_text cX7_text 2 (some .int), Cond.methodLink RX7 249 yX3_read, Cond.instanceMethod yX3_read, Cond.selects RX3 yX3_read yX3_read, Cond.code yX3_read cX3_read 3 (some .int), Cond.methodLink RX3 45 yX3_split, Cond.instanceMethod yX3_split, Cond.selects RX3 yX3_split yX3_split, Cond.code yX3_split cX3_split 4 none, Cond.fieldLink RX3 63 "SharedShadow$Tape" "length" "I", Cond.methodLink RX3 66 yX6_byteAt]
def wsL_law_r39 : List Cond := [Cond.instanceMethod yX6_byteAt, Cond.selects RX6 yX6_byteAt yX6_byteAt, Cond.code yX6_byteAt cX6_byteAt 2 (some .int), Cond.methodLink RX3 70 yX3_typeOf, Cond.static yX3_typeOf, Cond.code yX3_typeOf cX3_typeOf 1 (some .int), Cond.methodLink RX3 73 yX3_beginToken, Cond.instanceMethod yX3_beginToken, Cond.selects RX3 yX3_beginToken yX3_beginToken, Cond.code yX3_beginToken cX3_beginToken 3 none, Cond.methodLink RX3 77 yX3_lengthenToken, Cond.instanceMethod yX3_lengthenToken, Cond.selects RX3 yX3_lengthenToken yX3_lengthenToken, Cond.code yX3_lengthenToken cX3_lengthenToken 3 none, Cond.constant RX3 81 (100000), Cond.methodLink RX3 82 Lib.Math.min.name, Cond.methodLink RX3 48 yX1_become, Cond.methodLink RX3 52 yX3_readItem, Cond.instanceMethod yX3_readItem, Cond.selects RX3 yX3_readItem yX3_readItem, Cond.code yX3_readItem cX3_readItem 1 (some .boolean), Cond.methodLink RX3 88 yX3_kindOfWord, Cond.instanceMethod yX3_kindOfWord, Cond.selects RX3 yX3_kindOfWord yX3_kindOfWord]
def wsL_law_r40 : List Cond := [Cond.code yX3_kindOfWord cX3_kindOfWord 1 (some .int), Cond.methodLink RX3 97 yX3_isWord, Cond.instanceMethod yX3_isWord, Cond.selects RX3 yX3_isWord yX3_isWord, Cond.code yX3_isWord cX3_isWord 3 (some .boolean), Cond.methodLink RX3 56 yX3_isNext, Cond.instanceMethod yX3_isNext, Cond.selects RX3 yX3_isNext yX3_isNext, Cond.code yX3_isNext cX3_isNext 2 (some .boolean), Cond.methodLink RX3 155 yJ0_length_8abf5, Cond.instanceMethod yJ0_length_8abf5, Cond.selects RJ0 yJ0_length_8abf5 yJ0_length_8abf5, Cond.initialized RJ0, Cond.code yJ0_length_8abf5 cJ0_length_8abf5 1 (some .int), Cond.fieldLink RJ0 9 "java/lang/String" "value" "[B", Cond.methodLink RJ0 335 yJ0_coder_7d493, Cond.instanceMethod yJ0_coder_7d493, Cond.selects RJ0 yJ0_coder_7d493 yJ0_coder_7d493, Cond.code yJ0_coder_7d493 cJ0_coder_7d493 1 (some .byte), Cond.fieldLink RJ0 38 "java/lang/String" "COMPACT_STRINGS" "Z", Cond.fieldLink RJ0 15 "java/lang/String" "coder" "B", Cond.methodLink RX3 159 yJ0_charAt_5068e, Cond.instanceMethod yJ0_charAt_5068e, Cond.selects RJ0 yJ0_charAt_5068e yJ0_charAt_5068e]
def wsL_law_r41 : List Cond := [Cond.code yJ0_charAt_5068e cJ0_charAt_5068e 2 (some .char), Cond.methodLink RJ0 492 yJ0_isLatin1_aae02, Cond.instanceMethod yJ0_isLatin1_aae02, Cond.selects RJ0 yJ0_isLatin1_aae02 yJ0_isLatin1_aae02, Cond.code yJ0_isLatin1_aae02 cJ0_isLatin1_aae02 1 (some .boolean), Cond.methodLink RJ0 495 yJ1_charAt_3b067, Cond.static yJ1_charAt_3b067, Cond.initialized RJ1, Cond.code yJ1_charAt_3b067 cJ1_charAt_3b067 2 (some .char), Cond.methodLink RJ1 9 yJ0_checkIndex_df160, Cond.static yJ0_checkIndex_df160, Cond.code yJ0_checkIndex_df160 cJ0_checkIndex_df160 2 none, Cond.fieldLink RJ0 1053 "jdk/internal/util/Preconditions" "SIOOBE_FORMATTER" "Ljava/util/function/BiFunction;", Cond.methodLink RJ0 1059 yJ3_checkIndex_8e157, Cond.static yJ3_checkIndex_8e157, Cond.initialized RJ3, Cond.code yJ3_checkIndex_8e157 cJ3_checkIndex_8e157 3 (some .int), Cond.methodLink RJ0 498 yJ2_charAt_3b067, Cond.static yJ2_charAt_3b067, Cond.initialized RJ2, Cond.code yJ2_charAt_3b067 cJ2_charAt_3b067 2 (some .char), Cond.methodLink RJ2 67 yJ2_checkIndex_2214a, Cond.static yJ2_checkIndex_2214a, Cond.code yJ2_checkIndex_2214a cJ2_checkIndex_2214a 2 none]
def wsL_law_r42 : List Cond := [Cond.methodLink RJ2 48 yJ2_length_9d52b, Cond.static yJ2_length_9d52b, Cond.code yJ2_length_9d52b cJ2_length_9d52b 1 (some .int), Cond.methodLink RJ2 414 yJ0_checkIndex_df160, Cond.methodLink RJ2 71 yJ2_getChar_3b067, Cond.static yJ2_getChar_3b067, Cond.code yJ2_getChar_3b067 cJ2_getChar_3b067 2 (some .char), Cond.fieldLink RJ2 44 "java/lang/StringUTF16" "$assertionsDisabled" "Z", Cond.fieldLink RJ2 59 "java/lang/StringUTF16" "HI_BYTE_SHIFT" "I", Cond.fieldLink RJ2 63 "java/lang/StringUTF16" "LO_BYTE_SHIFT" "I", Cond.methodLink RX3 92 yX3_readPerson, Cond.instanceMethod yX3_readPerson, Cond.selects RX3 yX3_readPerson yX3_readPerson, Cond.code yX3_readPerson cX3_readPerson 2 (some .boolean), Cond.fieldLink RX3 131 "SharedShadow$Land" "sun" "[I", Cond.fieldLink RX3 139 "SharedShadow$Land" "strength" "[I", Cond.fieldLink RX3 143 "SharedShadow$Land" "needs" "[I", Cond.constant RX3 114 (65535), Cond.methodLink RX3 123 yX1_isFull, Cond.methodLink RX3 126 yX1_add, Cond.methodLink RX3 60 yX3_step, Cond.instanceMethod yX3_step, Cond.selects RX3 yX3_step yX3_step, Cond.code yX3_step cX3_step 1 none]
def wsL_law_r43 : List Cond := [Cond.methodLink RX3 133 yX3_readTrait, Cond.instanceMethod yX3_readTrait, Cond.selects RX3 yX3_readTrait yX3_readTrait, Cond.code yX3_readTrait cX3_readTrait 6 (some .boolean), Cond.methodLink RX3 115 yX3_takeNumber, Cond.instanceMethod yX3_takeNumber, Cond.selects RX3 yX3_takeNumber yX3_takeNumber, Cond.code yX3_takeNumber cX3_takeNumber 2 (some .boolean), Cond.methodLink RX3 101 yX3_readShare, Cond.instanceMethod yX3_readShare, Cond.selects RX3 yX3_readShare yX3_readShare, Cond.code yX3_readShare cX3_readShare 3 (some .boolean), Cond.fieldLink RX3 149 "SharedShadow$Land" "people" "I", Cond.methodLink RX3 152 yX1_join, Cond.methodLink RX3 106 yX3_readLight, Cond.instanceMethod yX3_readLight, Cond.selects RX3 yX3_readLight yX3_readLight, Cond.code yX3_readLight cX3_readLight 2 (some .boolean), Cond.fieldLink RX3 118 "SharedShadow$Land" "lit" "I", Cond.methodLink RX3 111 yX3_readHour, Cond.instanceMethod yX3_readHour, Cond.selects RX3 yX3_readHour yX3_readHour, Cond.code yX3_readHour cX3_readHour 2 (some .boolean), Cond.fieldLink RX3 121 "SharedShadow$Land" "hour" "I"]
def wsL_law_r44 : List Cond := [Cond.methodLink RL 157 yX8_text, Cond.instanceMethod yX8_text, Cond.selects RX8 yX8_text yX8_text, Cond.code yX8_text cX8_text 3 (some .int), Cond.fieldLink RX8 259 "SharedShadowModel" "ends" "I", Cond.fieldLink RX8 282 "SharedShadowModel" "isWrong" "Z", Cond.fieldLink RX8 293 "SharedShadowModel" "itemMany" "I", Cond.fieldLink RX8 300 "SharedShadowModel" "personThen" "I", Cond.fieldLink RX8 271 "SharedShadowModel" "sort" "I", Cond.fieldLink RX8 262 "SharedShadowModel" "begins" "I", Cond.methodLink RX8 286 yX8_next, Cond.instanceMethod yX8_next, Cond.selects RX8 yX8_next yX8_next, Cond.code yX8_next cX8_next 2 none, Cond.fieldLink RX8 268 "SharedShadowModel" "value" "I", Cond.constant RX8 274 (100000), Cond.methodLink RX8 265 yX8_byteAt, Cond.instanceMethod yX8_byteAt, Cond.selects RX8 yX8_byteAt yX8_byteAt, Cond.code yX8_byteAt cX8_byteAt 2 (some .int), Cond.methodLink RX8 330 yX8_readItem, Cond.instanceMethod yX8_readItem, Cond.selects RX8 yX8_readItem yX8_readItem, Cond.code yX8_readItem cX8_readItem 4 none]
def wsL_law_r45 : List Cond := [Cond.methodLink RX8 306 yX8_kindTold, Cond.instanceMethod yX8_kindTold, Cond.selects RX8 yX8_kindTold yX8_kindTold, Cond.code yX8_kindTold cX8_kindTold 3 (some .int), Cond.methodLink RX8 296 yX8_isWord, Cond.instanceMethod yX8_isWord, Cond.selects RX8 yX8_isWord yX8_isWord, Cond.code yX8_isWord cX8_isWord 4 (some .boolean), Cond.methodLink RX8 275 yJ0_length_8abf5, Cond.methodLink RX8 278 yJ0_charAt_5068e, Cond.methodLink RX8 289 yX8_must, Cond.instanceMethod yX8_must, Cond.selects RX8 yX8_must yX8_must, Cond.code yX8_must cX8_must 2 none, Cond.methodLink RX8 311 yX8_isNext, Cond.instanceMethod yX8_isNext, Cond.selects RX8 yX8_isNext yX8_isNext, Cond.code yX8_isNext cX8_isNext 3 (some .boolean), Cond.methodLink RX8 303 yX8_number, Cond.instanceMethod yX8_number, Cond.selects RX8 yX8_number yX8_number, Cond.code yX8_number cX8_number 4 (some .int), Cond.methodLink RX8 318 yX8_item, Cond.instanceMethod yX8_item]
def wsL_law_r46 : List Cond := [Cond.selects RX8 yX8_item yX8_item, Cond.code yX8_item cX8_item 6 none, Cond.methodLink RX8 324 yX8_another, Cond.instanceMethod yX8_another, Cond.selects RX8 yX8_another yX8_another, Cond.code yX8_another cX8_another 5 (some .int), Cond.methodLink RX8 333 yX8_isSo, Cond.instanceMethod yX8_isSo, Cond.selects RX8 yX8_isSo yX8_isSo, Cond.code yX8_isSo cX8_isSo 4 (some .int), Cond.methodLink RL 158 yX7_hold, Cond.instanceMethod yX7_hold, Cond.selects RX7 yX7_hold yX7_hold, Cond.code yX7_hold cX7_hold 3 (some .int), Cond.fieldLink RX7 253 "SharedShadow$Land" "spots" "[I", Cond.methodLink RL 161 yX8_hold, Cond.instanceMethod yX8_hold, Cond.selects RX8 yX8_hold yX8_hold, Cond.code yX8_hold cX8_hold 3 (some .int), Cond.methodLink RX8 336 yX8_isSpot, Cond.static yX8_isSpot, Cond.code yX8_isSpot cX8_isSpot 1 (some .boolean), Cond.methodLink RL 162 yX7_as, Cond.instanceMethod yX7_as]
def wsL_law_r47 : List Cond := [Cond.selects RX7 yX7_as yX7_as, Cond.code yX7_as cX7_as 4 (some .int), Cond.methodLink RX7 256 yX1_isOfKind, Cond.instanceMethod yX1_isOfKind, Cond.selects RX1 yX1_isOfKind yX1_isOfKind, Cond.code yX1_isOfKind cX1_isOfKind 5 (some .boolean), Cond.fieldLink RX1 75 "SharedShadow$Land" "UNDER" "[I", Cond.methodLink RL 165 yX8_as, Cond.instanceMethod yX8_as, Cond.selects RX8 yX8_as yX8_as, Cond.code yX8_as cX8_as 4 (some .int), Cond.constant RX8 342 (-1000003), Cond.methodLink RX8 339 yX8_isUnder, Cond.static yX8_isUnder, Cond.code yX8_isUnder cX8_isUnder 3 (some .boolean), Cond.methodLink RX8 99 yX8_above, Cond.static yX8_above, Cond.code yX8_above cX8_above 1 (some .int), Cond.methodLink RL 166 yX7_sheet, Cond.instanceMethod yX7_sheet, Cond.selects RX7 yX7_sheet yX7_sheet, Cond.code yX7_sheet cX7_sheet 4 (some .int), Cond.fieldLink RX7 265 "SharedShadow$Sheet" "length" "I", Cond.methodLink RX7 262 yX5_renew]
def wsL_law_r48 : List Cond := [Cond.instanceMethod yX5_renew, Cond.selects RX5 yX5_renew yX5_renew, Cond.code yX5_renew cX5_renew 4 none, Cond.methodLink RX5 22 Lib.Math.min.name, Cond.methodLink RX5 28 Lib.Math.max.name, Cond.methodLink RL 169 yX8_sheet, Cond.instanceMethod yX8_sheet, Cond.selects RX8 yX8_sheet yX8_sheet, Cond.code yX8_sheet cX8_sheet 5 (some .int), Cond.constant RX8 343 (-1000007), Cond.methodLink RL 170 yX7_write, Cond.instanceMethod yX7_write, Cond.selects RX7 yX7_write yX7_write, Cond.code yX7_write cX7_write 5 (some .int), Cond.methodLink RX7 266 yX5_put, Cond.instanceMethod yX5_put, Cond.selects RX5 yX5_put yX5_put, Cond.code yX5_put cX5_put 3 none, Cond.methodLink RL 173 yX8_write, Cond.instanceMethod yX8_write, Cond.selects RX8 yX8_write yX8_write, Cond.code yX8_write cX8_write 4 (some .int), Cond.methodLink RX8 344 yX8_cutTo, Cond.static yX8_cutTo]
def wsL_law_r49 : List Cond := [Cond.code yX8_cutTo cX8_cutTo 2 (some .int), Cond.methodLink RL 174 yX7_copy, Cond.instanceMethod yX7_copy, Cond.selects RX7 yX7_copy yX7_copy, Cond.code yX7_copy cX7_copy 6 (some .int), Cond.fieldLink RX7 272 "SharedShadow$Sheet" "bits" "I", Cond.fieldLink RX7 278 "SharedShadow$Sheet" "numbers" "[I", Cond.methodLink RX7 281 arraycopyName, Cond.methodLink RX7 275 yX5_hasRun, Cond.instanceMethod yX5_hasRun, Cond.selects RX5 yX5_hasRun yX5_hasRun, Cond.code yX5_hasRun cX5_hasRun 3 (some .boolean), Cond.methodLink RL 178 yX8_copy, Cond.instanceMethod yX8_copy, Cond.selects RX8 yX8_copy yX8_copy, Cond.code yX8_copy cX8_copy 7 (some .int), Cond.methodLink RL 179 yX7_load, Cond.instanceMethod yX7_load, Cond.selects RX7 yX7_load yX7_load, Cond.code yX7_load cX7_load 5 (some .int), Cond.methodLink RL 182 yX8_load, Cond.instanceMethod yX8_load, Cond.selects RX8 yX8_load yX8_load, Cond.code yX8_load cX8_load 3 (some .int)]
def wsL_law_r50 : List Cond := [Cond.methodLink RL 183 yX7_judge, Cond.instanceMethod yX7_judge, Cond.selects RX7 yX7_judge yX7_judge, Cond.code yX7_judge cX7_judge 4 (some .int), Cond.methodLink RX7 287 yX4_isShadowSet, Cond.instanceMethod yX4_isShadowSet, Cond.selects RX4 yX4_isShadowSet yX4_isShadowSet, Cond.code yX4_isShadowSet cX4_isShadowSet 3 (some .boolean), Cond.methodLink RL 186 yX8_judge, Cond.instanceMethod yX8_judge, Cond.selects RX8 yX8_judge yX8_judge, Cond.code yX8_judge cX8_judge 4 (some .int), Cond.methodLink RL 187 yX7_image, Cond.instanceMethod yX7_image, Cond.selects RX7 yX7_image yX7_image, Cond.code yX7_image cX7_image 1 (some .int), Cond.methodLink RX7 290 yX1_become, Cond.methodLink RL 190 yX8_image, Cond.instanceMethod yX8_image, Cond.selects RX8 yX8_image yX8_image, Cond.code yX8_image cX8_image 1 (some .int), Cond.fieldLink RX8 347 "SharedShadowModel" "isKept" "Z", Cond.methodLink RL 191 yX7_undo, Cond.instanceMethod yX7_undo]
def wsL_law_r51 : List Cond := [Cond.selects RX7 yX7_undo yX7_undo, Cond.code yX7_undo cX7_undo 1 (some .int), Cond.methodLink RL 194 yX8_undo, Cond.instanceMethod yX8_undo, Cond.selects RX8 yX8_undo yX8_undo, Cond.code yX8_undo cX8_undo 1 (some .int), Cond.methodLink RL 195 yX7_tear, Cond.instanceMethod yX7_tear, Cond.selects RX7 yX7_tear yX7_tear, Cond.code yX7_tear cX7_tear 2 (some .int), Cond.methodLink RL 198 yX8_tear, Cond.instanceMethod yX8_tear, Cond.selects RX8 yX8_tear yX8_tear, Cond.code yX8_tear cX8_tear 2 (some .int), Cond.methodLink RL 199 yX7_count, Cond.instanceMethod yX7_count, Cond.selects RX7 yX7_count yX7_count, Cond.code yX7_count cX7_count 2 (some .int), Cond.methodLink RX7 293 yX1_countMated, Cond.instanceMethod yX1_countMated, Cond.selects RX1 yX1_countMated yX1_countMated, Cond.code yX1_countMated cX1_countMated 3 (some .int), Cond.methodLink RX7 296 yX1_sunOfAll, Cond.instanceMethod yX1_sunOfAll]
def wsL_law_r52 : List Cond := [Cond.selects RX1 yX1_sunOfAll yX1_sunOfAll, Cond.code yX1_sunOfAll cX1_sunOfAll 3 (some .int), Cond.methodLink RX7 299 yX1_countHeld, Cond.instanceMethod yX1_countHeld, Cond.selects RX1 yX1_countHeld yX1_countHeld, Cond.code yX1_countHeld cX1_countHeld 6 (some .int), Cond.methodLink RL 202 yX8_count, Cond.instanceMethod yX8_count, Cond.selects RX8 yX8_count yX8_count, Cond.code yX8_count cX8_count 4 (some .int), Cond.methodLink RL 203 yX7_status, Cond.instanceMethod yX7_status, Cond.selects RX7 yX7_status yX7_status, Cond.code yX7_status cX7_status 2 (some .int), Cond.methodLink RX7 302 yX7_sum, Cond.static yX7_sum, Cond.code yX7_sum cX7_sum 6 (some .int), Cond.methodLink RL 206 yX8_status, Cond.instanceMethod yX8_status, Cond.selects RX8 yX8_status yX8_status, Cond.code yX8_status cX8_status 2 (some .int)]
def wsL_law : List Cond := (wsL_law_r1 ++ (wsL_law_r2 ++ (wsL_law_r3 ++ (wsL_law_r4 ++ (wsL_law_r5 ++ (wsL_law_r6 ++ (wsL_law_r7 ++ (wsL_law_r8 ++ (wsL_law_r9 ++ (wsL_law_r10 ++ (wsL_law_r11 ++ (wsL_law_r12 ++ (wsL_law_r13 ++ (wsL_law_r14 ++ (wsL_law_r15 ++ (wsL_law_r16 ++ (wsL_law_r17 ++ (wsL_law_r18 ++ (wsL_law_r19 ++ (wsL_law_r20 ++ (wsL_law_r21 ++ (wsL_law_r22 ++ (wsL_law_r23 ++ (wsL_law_r24 ++ (wsL_law_r25 ++ (wsL_law_r26 ++ (wsL_law_r27 ++ (wsL_law_r28 ++ (wsL_law_r29 ++ (wsL_law_r30 ++ (wsL_law_r31 ++ (wsL_law_r32 ++ (wsL_law_r33 ++ (wsL_law_r34 ++ (wsL_law_r35 ++ (wsL_law_r36 ++ (wsL_law_r37 ++ (wsL_law_r38 ++ (wsL_law_r39 ++ (wsL_law_r40 ++ (wsL_law_r41 ++ (wsL_law_r42 ++ (wsL_law_r43 ++ (wsL_law_r44 ++ (wsL_law_r45 ++ (wsL_law_r46 ++ (wsL_law_r47 ++ (wsL_law_r48 ++ (wsL_law_r49 ++ (wsL_law_r50 ++ (wsL_law_r51 ++ wsL_law_r52))))))))))))))))))))))))))))))))))))))))))))))))))) ++ wsX70 ++ wsX80 ++ wsX10 ++ wsX40 ++ wsX00 ++ wsX20 ++ wsX30 ++ wsX50 ++ wsX60 ++ ([] : List Cond)
set_option maxRecDepth 20000 in
theorem wsL_law_in : ∀ w ∈ wsL_law, w ∈ lw_tbl := fun w h => (goodIn_p wsL_law [97, 100, 105, 175, 197, 222, 238, 244, 288, 997, 339, 342, 346, 351, 355, 1100, 1103, 1106, 1111, 1116, 1119, 360, 364, 368, 372, 375, 379, 382, 385, 1123, 1127, 1131, 1135, 1139, 1143, 1147, 1150, 1154, 391, 395, 1160, 1163, 1167, 400, 404, 409, 414, 1171, 1175, 1179, 1183, 418, 1187, 423, 1192, 427, 1196, 431, 435, 440, 444, 1200, 1205, 1209, 1213, 448, 1217, 452, 1221, 456, 460, 464, 468, 475, 479, 485, 490, 494, 498, 1225, 1229, 1232, 1235, 505, 509, 1239, 1243, 513, 1248, 518, 522, 1252, 1256, 1260, 527, 531, 1264, 535, 1268, 541, 1272, 545, 1276, 549, 553, 561, 565, 570, 574, 578, 1280, 1284, 1288, 584, 588, 1292, 1296, 1301, 1305, 592, 596, 1309, 1313, 600, 1317, 604, 608, 614, 619, 623, 627, 630, 635, 640, 645, 649, 1321, 1325, 1329, 1332, 1336, 653, 657, 661, 1340, 665, 669, 1344, 673, 677, 1348, 1352, 682, 686, 689, 693, 697, 701, 705, 1356, 1359, 1364, 1368, 1372, 709, 713, 1376, 717, 723, 1380, 1384, 728, 731, 734, 1388, 1391, 738, 743, 1395, 1400, 748, 1405, 752, 756, 1409, 760, 1413, 764, 768, 772, 776, 779, 783, 787, 794, 798, 803, 807, 811, 815, 821, 825, 828, 831, 836, 839, 842, 845, 849, 865, 871, 876, 880, 889, 895, 900, 1417, 1421, 1425, 1430, 1434, 1438, 1444, 1449, 1453, 1459, 1464, 1470, 905, 1474, 1477, 909, 913, 1481, 1484, 1487, 920, 924, 1492, 930, 934, 1497, 1500, 939, 943, 1504, 948, 1508, 952, 956, 1512, 960, 1516, 965, 1520, 969, 1524, 973, 977, 981, 985, 1528, 989, 992, 1532] (by decide +kernel) (by decide +kernel) w h).1
theorem inlX0 : ∀ w ∈ wsX00, w ∈ wsL_law := fun _ h => List.mem_append_left _ (List.mem_append_left _ (List.mem_append_left _ (List.mem_append_left _ (List.mem_append_left _ (List.mem_append_right _ h)))))
theorem inX0 : ∀ w ∈ wsX00, w ∈ lw_tbl := fun w h => wsL_law_in w (inlX0 w h)
theorem inlX1 : ∀ w ∈ wsX10, w ∈ wsL_law := fun _ h => List.mem_append_left _ (List.mem_append_left _ (List.mem_append_left _ (List.mem_append_left _ (List.mem_append_left _ (List.mem_append_left _ (List.mem_append_left _ (List.mem_append_right _ h)))))))
theorem inX1 : ∀ w ∈ wsX10, w ∈ lw_tbl := fun w h => wsL_law_in w (inlX1 w h)
theorem inlX2 : ∀ w ∈ wsX20, w ∈ wsL_law := fun _ h => List.mem_append_left _ (List.mem_append_left _ (List.mem_append_left _ (List.mem_append_left _ (List.mem_append_right _ h))))
theorem inX2 : ∀ w ∈ wsX20, w ∈ lw_tbl := fun w h => wsL_law_in w (inlX2 w h)
theorem inlX3 : ∀ w ∈ wsX30, w ∈ wsL_law := fun _ h => List.mem_append_left _ (List.mem_append_left _ (List.mem_append_left _ (List.mem_append_right _ h)))
theorem inX3 : ∀ w ∈ wsX30, w ∈ lw_tbl := fun w h => wsL_law_in w (inlX3 w h)
theorem inlX4 : ∀ w ∈ wsX40, w ∈ wsL_law := fun _ h => List.mem_append_left _ (List.mem_append_left _ (List.mem_append_left _ (List.mem_append_left _ (List.mem_append_left _ (List.mem_append_left _ (List.mem_append_right _ h))))))
theorem inX4 : ∀ w ∈ wsX40, w ∈ lw_tbl := fun w h => wsL_law_in w (inlX4 w h)
theorem inlX5 : ∀ w ∈ wsX50, w ∈ wsL_law := fun _ h => List.mem_append_left _ (List.mem_append_left _ (List.mem_append_right _ h))
theorem inX5 : ∀ w ∈ wsX50, w ∈ lw_tbl := fun w h => wsL_law_in w (inlX5 w h)
theorem inlX6 : ∀ w ∈ wsX60, w ∈ wsL_law := fun _ h => List.mem_append_left _ (List.mem_append_right _ h)
theorem inX6 : ∀ w ∈ wsX60, w ∈ lw_tbl := fun w h => wsL_law_in w (inlX6 w h)
theorem inlX7 : ∀ w ∈ wsX70, w ∈ wsL_law := fun _ h => List.mem_append_left _ (List.mem_append_left _ (List.mem_append_left _ (List.mem_append_left _ (List.mem_append_left _ (List.mem_append_left _ (List.mem_append_left _ (List.mem_append_left _ (List.mem_append_left _ (List.mem_append_right _ h)))))))))
theorem inX7 : ∀ w ∈ wsX70, w ∈ lw_tbl := fun w h => wsL_law_in w (inlX7 w h)
theorem inlX8 : ∀ w ∈ wsX80, w ∈ wsL_law := fun _ h => List.mem_append_left _ (List.mem_append_left _ (List.mem_append_left _ (List.mem_append_left _ (List.mem_append_left _ (List.mem_append_left _ (List.mem_append_left _ (List.mem_append_left _ (List.mem_append_right _ h))))))))
theorem inX8 : ∀ w ∈ wsX80, w ∈ lw_tbl := fun w h => wsL_law_in w (inlX8 w h)
theorem inJ6 : ∀ w ∈ wsJ60, w ∈ lw_tbl := by decide +kernel
theorem inJ9 : ∀ w ∈ wsJ90, w ∈ lw_tbl := by decide +kernel
theorem inJ0 : ∀ w ∈ wsJ00, w ∈ lw_tbl := by decide +kernel
theorem inJ1 : ∀ w ∈ wsJ10, w ∈ lw_tbl := by decide +kernel
theorem inJ2 : ∀ w ∈ wsJ20, w ∈ lw_tbl := by decide +kernel
theorem inJ10 : ∀ w ∈ wsJ100, w ∈ lw_tbl := by decide +kernel
theorem inJ3 : ∀ w ∈ wsJ30, w ∈ lw_tbl := by decide +kernel
theorem dX0_init_0 : decode cX0_init 0 = .ok (.aload_n 0, 1) := by decide +kernel
theorem dX0_init_1 : decode cX0_init 1 = .ok (.invokespecial 3, 3) := by decide +kernel
theorem dX0_init_4 : decode cX0_init 4 = .ok (.aload_n 0, 1) := by decide +kernel
theorem dX0_init_5 : decode cX0_init 5 = .ok (.iconst 2, 1) := by decide +kernel
theorem dX0_init_6 : decode cX0_init 6 = .ok (.newarray .int, 2) := by decide +kernel
theorem dX0_init_8 : decode cX0_init 8 = .ok (.putfield 9, 3) := by decide +kernel
theorem dX0_init_11 : decode cX0_init 11 = .ok (.aload_n 0, 1) := by decide +kernel
theorem dX0_init_12 : decode cX0_init 12 = .ok (.iconst 2, 1) := by decide +kernel
theorem dX0_init_13 : decode cX0_init 13 = .ok (.newarray .int, 2) := by decide +kernel
theorem dX0_init_15 : decode cX0_init 15 = .ok (.putfield 15, 3) := by decide +kernel
theorem dX0_init_18 : decode cX0_init 18 = .ok (.aload_n 0, 1) := by decide +kernel
theorem dX0_init_19 : decode cX0_init 19 = .ok (.iconst 2, 1) := by decide +kernel
theorem dX0_init_20 : decode cX0_init 20 = .ok (.newarray .int, 2) := by decide +kernel
theorem dX0_init_22 : decode cX0_init 22 = .ok (.putfield 18, 3) := by decide +kernel
theorem dX0_init_25 : decode cX0_init 25 = .ok (.aload_n 0, 1) := by decide +kernel
theorem dX0_init_26 : decode cX0_init 26 = .ok (.bipush 34, 2) := by decide +kernel
theorem dX0_init_28 : decode cX0_init 28 = .ok (.newarray .int, 2) := by decide +kernel
theorem dX0_init_30 : decode cX0_init 30 = .ok (.putfield 21, 3) := by decide +kernel
theorem dX0_init_33 : decode cX0_init 33 = .ok (.aload_n 0, 1) := by decide +kernel
theorem dX0_init_34 : decode cX0_init 34 = .ok (.iconst 0, 1) := by decide +kernel
theorem dX0_init_35 : decode cX0_init 35 = .ok (.putfield 24, 3) := by decide +kernel
theorem dX0_init_38 : decode cX0_init 38 = .ok (.aload_n 0, 1) := by decide +kernel
theorem dX0_init_39 : decode cX0_init 39 = .ok (.iconst 0, 1) := by decide +kernel
theorem dX0_init_40 : decode cX0_init 40 = .ok (.putfield 28, 3) := by decide +kernel
theorem dX0_init_43 : decode cX0_init 43 = .ok (.return_, 1) := by decide +kernel
set_option maxRecDepth 20000 in
theorem ggX0_make_X1_areTwo : GoodIn wsX0_make wsX1_areTwo := goodIn_r _ [18, 19, 20, 21, 17, 22, 23, 54, 55, 56, 57, 58, 59, 60, 61, 62, 63, 64, 65] (by decide +kernel) (by decide +kernel)
set_option maxRecDepth 20000 in
theorem gX0_make_X1_areTwo : GoodIn wsX0_make (wsV RX0 31 RX1 yX1_areTwo wsX1_areTwo) := goodIn_app (goodIn_of _ (by decide +kernel)) ggX0_make_X1_areTwo
set_option maxRecDepth 20000 in
theorem ggX0_make_X1_hoursLeft : GoodIn wsX0_make wsX1_hoursLeft := goodIn_r _ [27, 28, 29, 54, 55, 56, 57, 58, 59, 60, 61, 62, 63, 64, 65] (by decide +kernel) (by decide +kernel)
set_option maxRecDepth 20000 in
theorem gX0_make_X1_hoursLeft : GoodIn wsX0_make (wsV RX0 47 RX1 yX1_hoursLeft wsX1_hoursLeft) := goodIn_app (goodIn_of _ (by decide +kernel)) ggX0_make_X1_hoursLeft
set_option maxRecDepth 20000 in
theorem ggX0_make_X0_weighBehind : GoodIn wsX0_make wsX0_weighBehind := goodIn_r _ [34, 35, 12, 6, 7, 4, 8, 36, 37, 38, 33, 39, 9, 40, 41, 42, 48, 49, 50, 51, 52, 53] (by decide +kernel) (by decide +kernel)
set_option maxRecDepth 20000 in
theorem gX0_make_X0_weighBehind : GoodIn wsX0_make (wsV RX0 54 RX0 yX0_weighBehind wsX0_weighBehind) := goodIn_app (goodIn_of _ (by decide +kernel)) ggX0_make_X0_weighBehind
set_option maxRecDepth 20000 in
theorem ggX0_make_X0_choose : GoodIn wsX0_make wsX0_choose := goodIn_r _ [46, 47, 12, 40, 41, 42, 36, 37, 38, 33, 39, 9, 35, 48, 49, 50, 51, 52, 53] (by decide +kernel) (by decide +kernel)
set_option maxRecDepth 20000 in
theorem gX0_make_X0_choose : GoodIn wsX0_make (wsV RX0 57 RX0 yX0_choose wsX0_choose) := goodIn_app (goodIn_of _ (by decide +kernel)) ggX0_make_X0_choose
theorem dX0_make_0 : decode cX0_make 0 = .ok (.aload_n 1, 1) := by decide +kernel
theorem dX0_make_1 : decode cX0_make 1 = .ok (.iload_n 2, 1) := by decide +kernel
theorem dX0_make_2 : decode cX0_make 2 = .ok (.iload_n 3, 1) := by decide +kernel
theorem dX0_make_3 : decode cX0_make 3 = .ok (.invokevirtual 31, 3) := by decide +kernel
theorem dX0_make_6 : decode cX0_make 6 = .ok (.ifCond .ne 4, 3) := by decide +kernel
theorem dX0_make_9 : decode cX0_make 9 = .ok (.return_, 1) := by decide +kernel
theorem dX0_make_10 : decode cX0_make 10 = .ok (.aload_n 0, 1) := by decide +kernel
theorem dX0_make_11 : decode cX0_make 11 = .ok (.getfield 9, 3) := by decide +kernel
theorem dX0_make_14 : decode cX0_make 14 = .ok (.iconst 0, 1) := by decide +kernel
theorem dX0_make_15 : decode cX0_make 15 = .ok (.iload_n 2, 1) := by decide +kernel
theorem dX0_make_16 : decode cX0_make 16 = .ok (.iload_n 3, 1) := by decide +kernel
theorem dX0_make_17 : decode cX0_make 17 = .ok (.invokestatic 37, 3) := by decide +kernel
theorem dX0_make_20 : decode cX0_make 20 = .ok (.iastore, 1) := by decide +kernel
theorem dX0_make_21 : decode cX0_make 21 = .ok (.aload_n 0, 1) := by decide +kernel
theorem dX0_make_22 : decode cX0_make 22 = .ok (.getfield 9, 3) := by decide +kernel
theorem dX0_make_25 : decode cX0_make 25 = .ok (.iconst 1, 1) := by decide +kernel
theorem dX0_make_26 : decode cX0_make 26 = .ok (.iload_n 2, 1) := by decide +kernel
theorem dX0_make_27 : decode cX0_make 27 = .ok (.iload_n 3, 1) := by decide +kernel
theorem dX0_make_28 : decode cX0_make 28 = .ok (.invokestatic 43, 3) := by decide +kernel
theorem dX0_make_31 : decode cX0_make 31 = .ok (.iastore, 1) := by decide +kernel
theorem dX0_make_32 : decode cX0_make 32 = .ok (.aload_n 0, 1) := by decide +kernel
theorem dX0_make_33 : decode cX0_make 33 = .ok (.getfield 15, 3) := by decide +kernel
theorem dX0_make_36 : decode cX0_make 36 = .ok (.iconst 0, 1) := by decide +kernel
theorem dX0_make_37 : decode cX0_make 37 = .ok (.aload_n 1, 1) := by decide +kernel
theorem dX0_make_38 : decode cX0_make 38 = .ok (.getfield 46, 3) := by decide +kernel
theorem dX0_make_41 : decode cX0_make 41 = .ok (.aload_n 0, 1) := by decide +kernel
theorem dX0_make_42 : decode cX0_make 42 = .ok (.getfield 9, 3) := by decide +kernel
theorem dX0_make_45 : decode cX0_make 45 = .ok (.iconst 0, 1) := by decide +kernel
theorem dX0_make_46 : decode cX0_make 46 = .ok (.iaload, 1) := by decide +kernel
theorem dX0_make_47 : decode cX0_make 47 = .ok (.iaload, 1) := by decide +kernel
theorem dX0_make_48 : decode cX0_make 48 = .ok (.iastore, 1) := by decide +kernel
theorem dX0_make_49 : decode cX0_make 49 = .ok (.aload_n 0, 1) := by decide +kernel
theorem dX0_make_50 : decode cX0_make 50 = .ok (.getfield 15, 3) := by decide +kernel
theorem dX0_make_53 : decode cX0_make 53 = .ok (.iconst 1, 1) := by decide +kernel
theorem dX0_make_54 : decode cX0_make 54 = .ok (.aload_n 1, 1) := by decide +kernel
theorem dX0_make_55 : decode cX0_make 55 = .ok (.getfield 46, 3) := by decide +kernel
theorem dX0_make_58 : decode cX0_make 58 = .ok (.aload_n 0, 1) := by decide +kernel
theorem dX0_make_59 : decode cX0_make 59 = .ok (.getfield 9, 3) := by decide +kernel
theorem dX0_make_62 : decode cX0_make 62 = .ok (.iconst 1, 1) := by decide +kernel
theorem dX0_make_63 : decode cX0_make 63 = .ok (.iaload, 1) := by decide +kernel
theorem dX0_make_64 : decode cX0_make 64 = .ok (.iaload, 1) := by decide +kernel
theorem dX0_make_65 : decode cX0_make 65 = .ok (.iastore, 1) := by decide +kernel
theorem dX0_make_66 : decode cX0_make 66 = .ok (.aload_n 0, 1) := by decide +kernel
theorem dX0_make_67 : decode cX0_make 67 = .ok (.aload_n 1, 1) := by decide +kernel
theorem dX0_make_68 : decode cX0_make 68 = .ok (.invokevirtual 47, 3) := by decide +kernel
theorem dX0_make_71 : decode cX0_make 71 = .ok (.aload_n 1, 1) := by decide +kernel
theorem dX0_make_72 : decode cX0_make 72 = .ok (.getfield 51, 3) := by decide +kernel
theorem dX0_make_75 : decode cX0_make 75 = .ok (.iand, 1) := by decide +kernel
theorem dX0_make_76 : decode cX0_make 76 = .ok (.putfield 24, 3) := by decide +kernel
theorem dX0_make_79 : decode cX0_make 79 = .ok (.aload_n 0, 1) := by decide +kernel
theorem dX0_make_80 : decode cX0_make 80 = .ok (.aload_n 1, 1) := by decide +kernel
theorem dX0_make_81 : decode cX0_make 81 = .ok (.invokevirtual 47, 3) := by decide +kernel
theorem dX0_make_84 : decode cX0_make 84 = .ok (.aload_n 1, 1) := by decide +kernel
theorem dX0_make_85 : decode cX0_make 85 = .ok (.getfield 51, 3) := by decide +kernel
theorem dX0_make_88 : decode cX0_make 88 = .ok (.iconst (-1), 1) := by decide +kernel
theorem dX0_make_89 : decode cX0_make 89 = .ok (.ixor, 1) := by decide +kernel
theorem dX0_make_90 : decode cX0_make 90 = .ok (.iand, 1) := by decide +kernel
theorem dX0_make_91 : decode cX0_make 91 = .ok (.putfield 28, 3) := by decide +kernel
theorem dX0_make_94 : decode cX0_make 94 = .ok (.aload_n 0, 1) := by decide +kernel
theorem dX0_make_95 : decode cX0_make 95 = .ok (.invokevirtual 54, 3) := by decide +kernel
theorem dX0_make_98 : decode cX0_make 98 = .ok (.aload_n 0, 1) := by decide +kernel
theorem dX0_make_99 : decode cX0_make 99 = .ok (.invokevirtual 57, 3) := by decide +kernel
theorem dX0_make_102 : decode cX0_make 102 = .ok (.return_, 1) := by decide +kernel
set_option maxRecDepth 20000 in
theorem ggX0_weighBehind_X0_worthOf : GoodIn wsX0_weighBehind wsX0_worthOf := goodIn_r _ [11, 12, 1, 13, 14, 15, 16, 17, 18, 19, 20, 21] (by decide +kernel) (by decide +kernel)
set_option maxRecDepth 20000 in
theorem gX0_weighBehind_X0_worthOf : GoodIn wsX0_weighBehind (wsV RX0 60 RX0 yX0_worthOf wsX0_worthOf) := goodIn_app (goodIn_of _ (by decide +kernel)) ggX0_weighBehind_X0_worthOf
set_option maxRecDepth 20000 in
theorem ggX0_weighBehind_X7_bit : GoodIn wsX0_weighBehind wsX7_bit := goodIn_r _ [15] (by decide +kernel) (by decide +kernel)
set_option maxRecDepth 20000 in
theorem gX0_weighBehind_X7_bit_n63 : GoodIn wsX0_weighBehind (wsX7_bit) := ggX0_weighBehind_X7_bit
theorem dX0_weighBehind_0 : decode cX0_weighBehind 0 = .ok (.aload_n 0, 1) := by decide +kernel
theorem dX0_weighBehind_1 : decode cX0_weighBehind 1 = .ok (.getfield 21, 3) := by decide +kernel
theorem dX0_weighBehind_4 : decode cX0_weighBehind 4 = .ok (.bipush 32, 2) := by decide +kernel
theorem dX0_weighBehind_6 : decode cX0_weighBehind 6 = .ok (.iconst 0, 1) := by decide +kernel
theorem dX0_weighBehind_7 : decode cX0_weighBehind 7 = .ok (.iastore, 1) := by decide +kernel
theorem dX0_weighBehind_8 : decode cX0_weighBehind 8 = .ok (.aload_n 0, 1) := by decide +kernel
theorem dX0_weighBehind_9 : decode cX0_weighBehind 9 = .ok (.getfield 21, 3) := by decide +kernel
theorem dX0_weighBehind_12 : decode cX0_weighBehind 12 = .ok (.bipush 33, 2) := by decide +kernel
theorem dX0_weighBehind_14 : decode cX0_weighBehind 14 = .ok (.iconst 0, 1) := by decide +kernel
theorem dX0_weighBehind_15 : decode cX0_weighBehind 15 = .ok (.iastore, 1) := by decide +kernel
theorem dX0_weighBehind_16 : decode cX0_weighBehind 16 = .ok (.bipush 15, 2) := by decide +kernel
theorem dX0_weighBehind_18 : decode cX0_weighBehind 18 = .ok (.istore_n 1, 1) := by decide +kernel
theorem dX0_weighBehind_19 : decode cX0_weighBehind 19 = .ok (.iload_n 1, 1) := by decide +kernel
theorem dX0_weighBehind_20 : decode cX0_weighBehind 20 = .ok (.ifCond .lt 84, 3) := by decide +kernel
theorem dX0_weighBehind_23 : decode cX0_weighBehind 23 = .ok (.iconst 0, 1) := by decide +kernel
theorem dX0_weighBehind_24 : decode cX0_weighBehind 24 = .ok (.istore_n 2, 1) := by decide +kernel
theorem dX0_weighBehind_25 : decode cX0_weighBehind 25 = .ok (.iload_n 2, 1) := by decide +kernel
theorem dX0_weighBehind_26 : decode cX0_weighBehind 26 = .ok (.iconst 2, 1) := by decide +kernel
theorem dX0_weighBehind_27 : decode cX0_weighBehind 27 = .ok (.if_icmp .ge 71, 3) := by decide +kernel
theorem dX0_weighBehind_30 : decode cX0_weighBehind 30 = .ok (.aload_n 0, 1) := by decide +kernel
theorem dX0_weighBehind_31 : decode cX0_weighBehind 31 = .ok (.iload_n 2, 1) := by decide +kernel
theorem dX0_weighBehind_32 : decode cX0_weighBehind 32 = .ok (.iload_n 1, 1) := by decide +kernel
theorem dX0_weighBehind_33 : decode cX0_weighBehind 33 = .ok (.invokevirtual 60, 3) := by decide +kernel
theorem dX0_weighBehind_36 : decode cX0_weighBehind 36 = .ok (.istore_n 3, 1) := by decide +kernel
theorem dX0_weighBehind_37 : decode cX0_weighBehind 37 = .ok (.aload_n 0, 1) := by decide +kernel
theorem dX0_weighBehind_38 : decode cX0_weighBehind 38 = .ok (.iconst 1, 1) := by decide +kernel
theorem dX0_weighBehind_39 : decode cX0_weighBehind 39 = .ok (.iload_n 2, 1) := by decide +kernel
theorem dX0_weighBehind_40 : decode cX0_weighBehind 40 = .ok (.isub, 1) := by decide +kernel
theorem dX0_weighBehind_41 : decode cX0_weighBehind 41 = .ok (.iload_n 1, 1) := by decide +kernel
theorem dX0_weighBehind_42 : decode cX0_weighBehind 42 = .ok (.invokevirtual 60, 3) := by decide +kernel
theorem dX0_weighBehind_45 : decode cX0_weighBehind 45 = .ok (.iconst 1, 1) := by decide +kernel
theorem dX0_weighBehind_46 : decode cX0_weighBehind 46 = .ok (.isub, 1) := by decide +kernel
theorem dX0_weighBehind_47 : decode cX0_weighBehind 47 = .ok (.istore 4, 2) := by decide +kernel
theorem dX0_weighBehind_49 : decode cX0_weighBehind 49 = .ok (.aload_n 0, 1) := by decide +kernel
theorem dX0_weighBehind_50 : decode cX0_weighBehind 50 = .ok (.getfield 21, 3) := by decide +kernel
theorem dX0_weighBehind_53 : decode cX0_weighBehind 53 = .ok (.iconst 2, 1) := by decide +kernel
theorem dX0_weighBehind_54 : decode cX0_weighBehind 54 = .ok (.iload_n 1, 1) := by decide +kernel
theorem dX0_weighBehind_55 : decode cX0_weighBehind 55 = .ok (.imul, 1) := by decide +kernel
theorem dX0_weighBehind_56 : decode cX0_weighBehind 56 = .ok (.iload_n 2, 1) := by decide +kernel
theorem dX0_weighBehind_57 : decode cX0_weighBehind 57 = .ok (.iadd, 1) := by decide +kernel
theorem dX0_weighBehind_58 : decode cX0_weighBehind 58 = .ok (.aload_n 0, 1) := by decide +kernel
theorem dX0_weighBehind_59 : decode cX0_weighBehind 59 = .ok (.getfield 24, 3) := by decide +kernel
theorem dX0_weighBehind_62 : decode cX0_weighBehind 62 = .ok (.iload_n 1, 1) := by decide +kernel
theorem dX0_weighBehind_63 : decode cX0_weighBehind 63 = .ok (.invokestatic 63, 3) := by decide +kernel
theorem dX0_weighBehind_66 : decode cX0_weighBehind 66 = .ok (.iconst 1, 1) := by decide +kernel
theorem dX0_weighBehind_67 : decode cX0_weighBehind 67 = .ok (.if_icmp .ne 12, 3) := by decide +kernel
theorem dX0_weighBehind_70 : decode cX0_weighBehind 70 = .ok (.iload_n 3, 1) := by decide +kernel
theorem dX0_weighBehind_71 : decode cX0_weighBehind 71 = .ok (.iload 4, 2) := by decide +kernel
theorem dX0_weighBehind_73 : decode cX0_weighBehind 73 = .ok (.invokestatic 43, 3) := by decide +kernel
theorem dX0_weighBehind_76 : decode cX0_weighBehind 76 = .ok (.goto 15, 3) := by decide +kernel
theorem dX0_weighBehind_79 : decode cX0_weighBehind 79 = .ok (.aload_n 0, 1) := by decide +kernel
theorem dX0_weighBehind_80 : decode cX0_weighBehind 80 = .ok (.getfield 21, 3) := by decide +kernel
theorem dX0_weighBehind_83 : decode cX0_weighBehind 83 = .ok (.iconst 2, 1) := by decide +kernel
theorem dX0_weighBehind_84 : decode cX0_weighBehind 84 = .ok (.iload_n 1, 1) := by decide +kernel
theorem dX0_weighBehind_85 : decode cX0_weighBehind 85 = .ok (.imul, 1) := by decide +kernel
theorem dX0_weighBehind_86 : decode cX0_weighBehind 86 = .ok (.iconst 2, 1) := by decide +kernel
theorem dX0_weighBehind_87 : decode cX0_weighBehind 87 = .ok (.iadd, 1) := by decide +kernel
theorem dX0_weighBehind_88 : decode cX0_weighBehind 88 = .ok (.iload_n 2, 1) := by decide +kernel
theorem dX0_weighBehind_89 : decode cX0_weighBehind 89 = .ok (.iadd, 1) := by decide +kernel
theorem dX0_weighBehind_90 : decode cX0_weighBehind 90 = .ok (.iaload, 1) := by decide +kernel
theorem dX0_weighBehind_91 : decode cX0_weighBehind 91 = .ok (.iastore, 1) := by decide +kernel
theorem dX0_weighBehind_92 : decode cX0_weighBehind 92 = .ok (.iinc 2 1, 3) := by decide +kernel
theorem dX0_weighBehind_95 : decode cX0_weighBehind 95 = .ok (.goto (-70), 3) := by decide +kernel
theorem dX0_weighBehind_98 : decode cX0_weighBehind 98 = .ok (.iinc 1 (-1), 3) := by decide +kernel
theorem dX0_weighBehind_101 : decode cX0_weighBehind 101 = .ok (.goto (-82), 3) := by decide +kernel
theorem dX0_weighBehind_104 : decode cX0_weighBehind 104 = .ok (.return_, 1) := by decide +kernel
set_option maxRecDepth 20000 in
theorem ggX0_worthOf_X7_bit : GoodIn wsX0_worthOf wsX7_bit := goodIn_r _ [5] (by decide +kernel) (by decide +kernel)
set_option maxRecDepth 20000 in
theorem gX0_worthOf_X7_bit_n63 : GoodIn wsX0_worthOf (wsX7_bit) := ggX0_worthOf_X7_bit
theorem dX0_worthOf_0 : decode cX0_worthOf 0 = .ok (.bipush 100, 2) := by decide +kernel
theorem dX0_worthOf_2 : decode cX0_worthOf 2 = .ok (.aload_n 0, 1) := by decide +kernel
theorem dX0_worthOf_3 : decode cX0_worthOf 3 = .ok (.getfield 15, 3) := by decide +kernel
theorem dX0_worthOf_6 : decode cX0_worthOf 6 = .ok (.iload_n 1, 1) := by decide +kernel
theorem dX0_worthOf_7 : decode cX0_worthOf 7 = .ok (.iaload, 1) := by decide +kernel
theorem dX0_worthOf_8 : decode cX0_worthOf 8 = .ok (.iload_n 2, 1) := by decide +kernel
theorem dX0_worthOf_9 : decode cX0_worthOf 9 = .ok (.invokestatic 63, 3) := by decide +kernel
theorem dX0_worthOf_12 : decode cX0_worthOf 12 = .ok (.imul, 1) := by decide +kernel
theorem dX0_worthOf_13 : decode cX0_worthOf 13 = .ok (.aload_n 0, 1) := by decide +kernel
theorem dX0_worthOf_14 : decode cX0_worthOf 14 = .ok (.getfield 21, 3) := by decide +kernel
theorem dX0_worthOf_17 : decode cX0_worthOf 17 = .ok (.iconst 2, 1) := by decide +kernel
theorem dX0_worthOf_18 : decode cX0_worthOf 18 = .ok (.iload_n 2, 1) := by decide +kernel
theorem dX0_worthOf_19 : decode cX0_worthOf 19 = .ok (.imul, 1) := by decide +kernel
theorem dX0_worthOf_20 : decode cX0_worthOf 20 = .ok (.iconst 2, 1) := by decide +kernel
theorem dX0_worthOf_21 : decode cX0_worthOf 21 = .ok (.iadd, 1) := by decide +kernel
theorem dX0_worthOf_22 : decode cX0_worthOf 22 = .ok (.iload_n 1, 1) := by decide +kernel
theorem dX0_worthOf_23 : decode cX0_worthOf 23 = .ok (.iadd, 1) := by decide +kernel
theorem dX0_worthOf_24 : decode cX0_worthOf 24 = .ok (.iaload, 1) := by decide +kernel
theorem dX0_worthOf_25 : decode cX0_worthOf 25 = .ok (.iadd, 1) := by decide +kernel
theorem dX0_worthOf_26 : decode cX0_worthOf 26 = .ok (.ireturn, 1) := by decide +kernel
set_option maxRecDepth 20000 in
theorem ggX0_choose_X7_bit : GoodIn wsX0_choose wsX7_bit := goodIn_r _ [5] (by decide +kernel) (by decide +kernel)
set_option maxRecDepth 20000 in
theorem gX0_choose_X7_bit_n63 : GoodIn wsX0_choose (wsX7_bit) := ggX0_choose_X7_bit
set_option maxRecDepth 20000 in
theorem ggX0_choose_X0_worthOf : GoodIn wsX0_choose wsX0_worthOf := goodIn_r _ [10, 11, 12, 3, 4, 5, 13, 14, 15, 16, 17, 18] (by decide +kernel) (by decide +kernel)
set_option maxRecDepth 20000 in
theorem gX0_choose_X0_worthOf : GoodIn wsX0_choose (wsV RX0 60 RX0 yX0_worthOf wsX0_worthOf) := goodIn_app (goodIn_of _ (by decide +kernel)) ggX0_choose_X0_worthOf
theorem dX0_choose_0 : decode cX0_choose 0 = .ok (.aload_n 0, 1) := by decide +kernel
theorem dX0_choose_1 : decode cX0_choose 1 = .ok (.getfield 18, 3) := by decide +kernel
theorem dX0_choose_4 : decode cX0_choose 4 = .ok (.iconst 0, 1) := by decide +kernel
theorem dX0_choose_5 : decode cX0_choose 5 = .ok (.iconst 0, 1) := by decide +kernel
theorem dX0_choose_6 : decode cX0_choose 6 = .ok (.iastore, 1) := by decide +kernel
theorem dX0_choose_7 : decode cX0_choose 7 = .ok (.aload_n 0, 1) := by decide +kernel
theorem dX0_choose_8 : decode cX0_choose 8 = .ok (.getfield 18, 3) := by decide +kernel
theorem dX0_choose_11 : decode cX0_choose 11 = .ok (.iconst 1, 1) := by decide +kernel
theorem dX0_choose_12 : decode cX0_choose 12 = .ok (.iconst 0, 1) := by decide +kernel
theorem dX0_choose_13 : decode cX0_choose 13 = .ok (.iastore, 1) := by decide +kernel
theorem dX0_choose_14 : decode cX0_choose 14 = .ok (.iconst (-1), 1) := by decide +kernel
theorem dX0_choose_15 : decode cX0_choose 15 = .ok (.istore_n 1, 1) := by decide +kernel
theorem dX0_choose_16 : decode cX0_choose 16 = .ok (.iconst 0, 1) := by decide +kernel
theorem dX0_choose_17 : decode cX0_choose 17 = .ok (.istore_n 2, 1) := by decide +kernel
theorem dX0_choose_18 : decode cX0_choose 18 = .ok (.iload_n 2, 1) := by decide +kernel
theorem dX0_choose_19 : decode cX0_choose 19 = .ok (.bipush 16, 2) := by decide +kernel
theorem dX0_choose_21 : decode cX0_choose 21 = .ok (.if_icmp .ge 81, 3) := by decide +kernel
theorem dX0_choose_24 : decode cX0_choose 24 = .ok (.aload_n 0, 1) := by decide +kernel
theorem dX0_choose_25 : decode cX0_choose 25 = .ok (.getfield 24, 3) := by decide +kernel
theorem dX0_choose_28 : decode cX0_choose 28 = .ok (.iload_n 2, 1) := by decide +kernel
theorem dX0_choose_29 : decode cX0_choose 29 = .ok (.invokestatic 63, 3) := by decide +kernel
theorem dX0_choose_32 : decode cX0_choose 32 = .ok (.iconst 1, 1) := by decide +kernel
theorem dX0_choose_33 : decode cX0_choose 33 = .ok (.if_icmp .ne 63, 3) := by decide +kernel
theorem dX0_choose_36 : decode cX0_choose 36 = .ok (.aload_n 0, 1) := by decide +kernel
theorem dX0_choose_37 : decode cX0_choose 37 = .ok (.iconst 0, 1) := by decide +kernel
theorem dX0_choose_38 : decode cX0_choose 38 = .ok (.iload_n 2, 1) := by decide +kernel
theorem dX0_choose_39 : decode cX0_choose 39 = .ok (.invokevirtual 60, 3) := by decide +kernel
theorem dX0_choose_42 : decode cX0_choose 42 = .ok (.iload_n 1, 1) := by decide +kernel
theorem dX0_choose_43 : decode cX0_choose 43 = .ok (.iconst 1, 1) := by decide +kernel
theorem dX0_choose_44 : decode cX0_choose 44 = .ok (.if_icmp .ne 7, 3) := by decide +kernel
theorem dX0_choose_47 : decode cX0_choose 47 = .ok (.iconst 1, 1) := by decide +kernel
theorem dX0_choose_48 : decode cX0_choose 48 = .ok (.goto 4, 3) := by decide +kernel
theorem dX0_choose_51 : decode cX0_choose 51 = .ok (.iconst 0, 1) := by decide +kernel
theorem dX0_choose_52 : decode cX0_choose 52 = .ok (.isub, 1) := by decide +kernel
theorem dX0_choose_53 : decode cX0_choose 53 = .ok (.istore_n 3, 1) := by decide +kernel
theorem dX0_choose_54 : decode cX0_choose 54 = .ok (.aload_n 0, 1) := by decide +kernel
theorem dX0_choose_55 : decode cX0_choose 55 = .ok (.iconst 1, 1) := by decide +kernel
theorem dX0_choose_56 : decode cX0_choose 56 = .ok (.iload_n 2, 1) := by decide +kernel
theorem dX0_choose_57 : decode cX0_choose 57 = .ok (.invokevirtual 60, 3) := by decide +kernel
theorem dX0_choose_60 : decode cX0_choose 60 = .ok (.iload_n 1, 1) := by decide +kernel
theorem dX0_choose_61 : decode cX0_choose 61 = .ok (.ifCond .ne 7, 3) := by decide +kernel
theorem dX0_choose_64 : decode cX0_choose 64 = .ok (.iconst 1, 1) := by decide +kernel
theorem dX0_choose_65 : decode cX0_choose 65 = .ok (.goto 4, 3) := by decide +kernel
theorem dX0_choose_68 : decode cX0_choose 68 = .ok (.iconst 0, 1) := by decide +kernel
theorem dX0_choose_69 : decode cX0_choose 69 = .ok (.isub, 1) := by decide +kernel
theorem dX0_choose_70 : decode cX0_choose 70 = .ok (.istore 4, 2) := by decide +kernel
theorem dX0_choose_72 : decode cX0_choose 72 = .ok (.iload 4, 2) := by decide +kernel
theorem dX0_choose_74 : decode cX0_choose 74 = .ok (.iload_n 3, 1) := by decide +kernel
theorem dX0_choose_75 : decode cX0_choose 75 = .ok (.if_icmp .le 7, 3) := by decide +kernel
theorem dX0_choose_78 : decode cX0_choose 78 = .ok (.iconst 1, 1) := by decide +kernel
theorem dX0_choose_79 : decode cX0_choose 79 = .ok (.goto 4, 3) := by decide +kernel
theorem dX0_choose_82 : decode cX0_choose 82 = .ok (.iconst 0, 1) := by decide +kernel
theorem dX0_choose_83 : decode cX0_choose 83 = .ok (.istore_n 1, 1) := by decide +kernel
theorem dX0_choose_84 : decode cX0_choose 84 = .ok (.aload_n 0, 1) := by decide +kernel
theorem dX0_choose_85 : decode cX0_choose 85 = .ok (.getfield 18, 3) := by decide +kernel
theorem dX0_choose_88 : decode cX0_choose 88 = .ok (.iload_n 1, 1) := by decide +kernel
theorem dX0_choose_89 : decode cX0_choose 89 = .ok (.dup2, 1) := by decide +kernel
theorem dX0_choose_90 : decode cX0_choose 90 = .ok (.iaload, 1) := by decide +kernel
theorem dX0_choose_91 : decode cX0_choose 91 = .ok (.iconst 1, 1) := by decide +kernel
theorem dX0_choose_92 : decode cX0_choose 92 = .ok (.iload_n 2, 1) := by decide +kernel
theorem dX0_choose_93 : decode cX0_choose 93 = .ok (.ishl, 1) := by decide +kernel
theorem dX0_choose_94 : decode cX0_choose 94 = .ok (.ior, 1) := by decide +kernel
theorem dX0_choose_95 : decode cX0_choose 95 = .ok (.iastore, 1) := by decide +kernel
theorem dX0_choose_96 : decode cX0_choose 96 = .ok (.iinc 2 1, 3) := by decide +kernel
theorem dX0_choose_99 : decode cX0_choose 99 = .ok (.goto (-81), 3) := by decide +kernel
theorem dX0_choose_102 : decode cX0_choose 102 = .ok (.return_, 1) := by decide +kernel
set_option maxRecDepth 20000 in
theorem ggX0_holderAt_X7_bit : GoodIn wsX0_holderAt wsX7_bit := goodIn_r _ [6] (by decide +kernel) (by decide +kernel)
set_option maxRecDepth 20000 in
theorem gX0_holderAt_X7_bit_n63 : GoodIn wsX0_holderAt (wsX7_bit) := ggX0_holderAt_X7_bit
theorem dX0_holderAt_0 : decode cX0_holderAt 0 = .ok (.aload_n 0, 1) := by decide +kernel
theorem dX0_holderAt_1 : decode cX0_holderAt 1 = .ok (.getfield 24, 3) := by decide +kernel
theorem dX0_holderAt_4 : decode cX0_holderAt 4 = .ok (.iload_n 1, 1) := by decide +kernel
theorem dX0_holderAt_5 : decode cX0_holderAt 5 = .ok (.invokestatic 63, 3) := by decide +kernel
theorem dX0_holderAt_8 : decode cX0_holderAt 8 = .ok (.ifCond .ne 5, 3) := by decide +kernel
theorem dX0_holderAt_11 : decode cX0_holderAt 11 = .ok (.iconst (-1), 1) := by decide +kernel
theorem dX0_holderAt_12 : decode cX0_holderAt 12 = .ok (.ireturn, 1) := by decide +kernel
theorem dX0_holderAt_13 : decode cX0_holderAt 13 = .ok (.aload_n 0, 1) := by decide +kernel
theorem dX0_holderAt_14 : decode cX0_holderAt 14 = .ok (.getfield 9, 3) := by decide +kernel
theorem dX0_holderAt_17 : decode cX0_holderAt 17 = .ok (.aload_n 0, 1) := by decide +kernel
theorem dX0_holderAt_18 : decode cX0_holderAt 18 = .ok (.getfield 18, 3) := by decide +kernel
theorem dX0_holderAt_21 : decode cX0_holderAt 21 = .ok (.iconst 1, 1) := by decide +kernel
theorem dX0_holderAt_22 : decode cX0_holderAt 22 = .ok (.iaload, 1) := by decide +kernel
theorem dX0_holderAt_23 : decode cX0_holderAt 23 = .ok (.iload_n 1, 1) := by decide +kernel
theorem dX0_holderAt_24 : decode cX0_holderAt 24 = .ok (.invokestatic 63, 3) := by decide +kernel
theorem dX0_holderAt_27 : decode cX0_holderAt 27 = .ok (.iaload, 1) := by decide +kernel
theorem dX0_holderAt_28 : decode cX0_holderAt 28 = .ok (.ireturn, 1) := by decide +kernel
set_option maxRecDepth 20000 in
theorem ggX0_metOfSide_X7_isWithin : GoodIn wsX0_metOfSide wsX7_isWithin := goodIn_r _ [6] (by decide +kernel) (by decide +kernel)
set_option maxRecDepth 20000 in
theorem gX0_metOfSide_X7_isWithin_n66 : GoodIn wsX0_metOfSide (wsX7_isWithin) := ggX0_metOfSide_X7_isWithin
set_option maxRecDepth 20000 in
theorem ggX0_metOfSide_J6_bitCount_0f7a4 : GoodIn wsX0_metOfSide wsJ6_bitCount_0f7a4 := goodIn_r _ [10, 11, 12, 13] (by decide +kernel) (by decide +kernel)
set_option maxRecDepth 20000 in
theorem gX0_metOfSide_J6_bitCount_0f7a4 : GoodIn wsX0_metOfSide (va_wsS RX0 69 yJ6_bitCount_0f7a4 wsJ6_bitCount_0f7a4) := goodIn_app (goodIn_of _ (by decide +kernel)) ggX0_metOfSide_J6_bitCount_0f7a4
theorem dX0_metOfSide_0 : decode cX0_metOfSide 0 = .ok (.iload_n 1, 1) := by decide +kernel
theorem dX0_metOfSide_1 : decode cX0_metOfSide 1 = .ok (.iconst 1, 1) := by decide +kernel
theorem dX0_metOfSide_2 : decode cX0_metOfSide 2 = .ok (.invokestatic 66, 3) := by decide +kernel
theorem dX0_metOfSide_5 : decode cX0_metOfSide 5 = .ok (.ifCond .eq 27, 3) := by decide +kernel
theorem dX0_metOfSide_8 : decode cX0_metOfSide 8 = .ok (.aload_n 0, 1) := by decide +kernel
theorem dX0_metOfSide_9 : decode cX0_metOfSide 9 = .ok (.getfield 15, 3) := by decide +kernel
theorem dX0_metOfSide_12 : decode cX0_metOfSide 12 = .ok (.iload_n 1, 1) := by decide +kernel
theorem dX0_metOfSide_13 : decode cX0_metOfSide 13 = .ok (.iaload, 1) := by decide +kernel
theorem dX0_metOfSide_14 : decode cX0_metOfSide 14 = .ok (.aload_n 0, 1) := by decide +kernel
theorem dX0_metOfSide_15 : decode cX0_metOfSide 15 = .ok (.getfield 28, 3) := by decide +kernel
theorem dX0_metOfSide_18 : decode cX0_metOfSide 18 = .ok (.aload_n 0, 1) := by decide +kernel
theorem dX0_metOfSide_19 : decode cX0_metOfSide 19 = .ok (.getfield 18, 3) := by decide +kernel
theorem dX0_metOfSide_22 : decode cX0_metOfSide 22 = .ok (.iload_n 1, 1) := by decide +kernel
theorem dX0_metOfSide_23 : decode cX0_metOfSide 23 = .ok (.iaload, 1) := by decide +kernel
theorem dX0_metOfSide_24 : decode cX0_metOfSide 24 = .ok (.ior, 1) := by decide +kernel
theorem dX0_metOfSide_25 : decode cX0_metOfSide 25 = .ok (.iand, 1) := by decide +kernel
theorem dX0_metOfSide_26 : decode cX0_metOfSide 26 = .ok (.invokestatic 69, 3) := by decide +kernel
theorem dX0_metOfSide_29 : decode cX0_metOfSide 29 = .ok (.goto 4, 3) := by decide +kernel
theorem dX0_metOfSide_32 : decode cX0_metOfSide 32 = .ok (.iconst 0, 1) := by decide +kernel
theorem dX0_metOfSide_33 : decode cX0_metOfSide 33 = .ok (.ireturn, 1) := by decide +kernel
set_option maxRecDepth 20000 in
theorem ggX0_metOfBoth_X0_metOfSide : GoodIn wsX0_metOfBoth wsX0_metOfSide := goodIn_r _ [5, 6, 7, 8, 9, 10, 11, 12, 13, 14, 15, 16, 17, 18, 19, 20, 21, 22, 23, 24] (by decide +kernel) (by decide +kernel)
set_option maxRecDepth 20000 in
theorem gX0_metOfBoth_X0_metOfSide : GoodIn wsX0_metOfBoth (wsV RX0 75 RX0 yX0_metOfSide wsX0_metOfSide) := goodIn_app (goodIn_of _ (by decide +kernel)) ggX0_metOfBoth_X0_metOfSide
theorem dX0_metOfBoth_0 : decode cX0_metOfBoth 0 = .ok (.aload_n 0, 1) := by decide +kernel
theorem dX0_metOfBoth_1 : decode cX0_metOfBoth 1 = .ok (.iconst 0, 1) := by decide +kernel
theorem dX0_metOfBoth_2 : decode cX0_metOfBoth 2 = .ok (.invokevirtual 75, 3) := by decide +kernel
theorem dX0_metOfBoth_5 : decode cX0_metOfBoth 5 = .ok (.aload_n 0, 1) := by decide +kernel
theorem dX0_metOfBoth_6 : decode cX0_metOfBoth 6 = .ok (.iconst 1, 1) := by decide +kernel
theorem dX0_metOfBoth_7 : decode cX0_metOfBoth 7 = .ok (.invokevirtual 75, 3) := by decide +kernel
theorem dX0_metOfBoth_10 : decode cX0_metOfBoth 10 = .ok (.iadd, 1) := by decide +kernel
theorem dX0_metOfBoth_11 : decode cX0_metOfBoth 11 = .ok (.ireturn, 1) := by decide +kernel
set_option maxRecDepth 20000 in
theorem ggX0_countChanges_X7_bit : GoodIn wsX0_countChanges wsX7_bit := goodIn_r _ [5] (by decide +kernel) (by decide +kernel)
set_option maxRecDepth 20000 in
theorem gX0_countChanges_X7_bit_n63 : GoodIn wsX0_countChanges (wsX7_bit) := ggX0_countChanges_X7_bit
theorem dX0_countChanges_0 : decode cX0_countChanges 0 = .ok (.iconst 0, 1) := by decide +kernel
theorem dX0_countChanges_1 : decode cX0_countChanges 1 = .ok (.istore_n 1, 1) := by decide +kernel
theorem dX0_countChanges_2 : decode cX0_countChanges 2 = .ok (.iconst (-1), 1) := by decide +kernel
theorem dX0_countChanges_3 : decode cX0_countChanges 3 = .ok (.istore_n 2, 1) := by decide +kernel
theorem dX0_countChanges_4 : decode cX0_countChanges 4 = .ok (.iconst 0, 1) := by decide +kernel
theorem dX0_countChanges_5 : decode cX0_countChanges 5 = .ok (.istore_n 3, 1) := by decide +kernel
theorem dX0_countChanges_6 : decode cX0_countChanges 6 = .ok (.iload_n 3, 1) := by decide +kernel
theorem dX0_countChanges_7 : decode cX0_countChanges 7 = .ok (.bipush 16, 2) := by decide +kernel
theorem dX0_countChanges_9 : decode cX0_countChanges 9 = .ok (.if_icmp .ge 55, 3) := by decide +kernel
theorem dX0_countChanges_12 : decode cX0_countChanges 12 = .ok (.aload_n 0, 1) := by decide +kernel
theorem dX0_countChanges_13 : decode cX0_countChanges 13 = .ok (.getfield 24, 3) := by decide +kernel
theorem dX0_countChanges_16 : decode cX0_countChanges 16 = .ok (.iload_n 3, 1) := by decide +kernel
theorem dX0_countChanges_17 : decode cX0_countChanges 17 = .ok (.invokestatic 63, 3) := by decide +kernel
theorem dX0_countChanges_20 : decode cX0_countChanges 20 = .ok (.iconst 1, 1) := by decide +kernel
theorem dX0_countChanges_21 : decode cX0_countChanges 21 = .ok (.if_icmp .ne 37, 3) := by decide +kernel
theorem dX0_countChanges_24 : decode cX0_countChanges 24 = .ok (.aload_n 0, 1) := by decide +kernel
theorem dX0_countChanges_25 : decode cX0_countChanges 25 = .ok (.getfield 18, 3) := by decide +kernel
theorem dX0_countChanges_28 : decode cX0_countChanges 28 = .ok (.iconst 1, 1) := by decide +kernel
theorem dX0_countChanges_29 : decode cX0_countChanges 29 = .ok (.iaload, 1) := by decide +kernel
theorem dX0_countChanges_30 : decode cX0_countChanges 30 = .ok (.iload_n 3, 1) := by decide +kernel
theorem dX0_countChanges_31 : decode cX0_countChanges 31 = .ok (.invokestatic 63, 3) := by decide +kernel
theorem dX0_countChanges_34 : decode cX0_countChanges 34 = .ok (.istore 4, 2) := by decide +kernel
theorem dX0_countChanges_36 : decode cX0_countChanges 36 = .ok (.iload_n 1, 1) := by decide +kernel
theorem dX0_countChanges_37 : decode cX0_countChanges 37 = .ok (.iload_n 2, 1) := by decide +kernel
theorem dX0_countChanges_38 : decode cX0_countChanges 38 = .ok (.iconst (-1), 1) := by decide +kernel
theorem dX0_countChanges_39 : decode cX0_countChanges 39 = .ok (.if_icmp .eq 9, 3) := by decide +kernel
theorem dX0_countChanges_42 : decode cX0_countChanges 42 = .ok (.iload_n 2, 1) := by decide +kernel
theorem dX0_countChanges_43 : decode cX0_countChanges 43 = .ok (.iload 4, 2) := by decide +kernel
theorem dX0_countChanges_45 : decode cX0_countChanges 45 = .ok (.if_icmp .ne 7, 3) := by decide +kernel
theorem dX0_countChanges_48 : decode cX0_countChanges 48 = .ok (.iconst 0, 1) := by decide +kernel
theorem dX0_countChanges_49 : decode cX0_countChanges 49 = .ok (.goto 4, 3) := by decide +kernel
theorem dX0_countChanges_52 : decode cX0_countChanges 52 = .ok (.iconst 1, 1) := by decide +kernel
theorem dX0_countChanges_53 : decode cX0_countChanges 53 = .ok (.iadd, 1) := by decide +kernel
theorem dX0_countChanges_54 : decode cX0_countChanges 54 = .ok (.istore_n 1, 1) := by decide +kernel
theorem dX0_countChanges_55 : decode cX0_countChanges 55 = .ok (.iload 4, 2) := by decide +kernel
theorem dX0_countChanges_57 : decode cX0_countChanges 57 = .ok (.istore_n 2, 1) := by decide +kernel
theorem dX0_countChanges_58 : decode cX0_countChanges 58 = .ok (.iinc 3 1, 3) := by decide +kernel
theorem dX0_countChanges_61 : decode cX0_countChanges 61 = .ok (.goto (-55), 3) := by decide +kernel
theorem dX0_countChanges_64 : decode cX0_countChanges 64 = .ok (.iload_n 1, 1) := by decide +kernel
theorem dX0_countChanges_65 : decode cX0_countChanges 65 = .ok (.ireturn, 1) := by decide +kernel
theorem dX1_init_0 : decode cX1_init 0 = .ok (.aload_n 0, 1) := by decide +kernel
theorem dX1_init_1 : decode cX1_init 1 = .ok (.invokespecial 3, 3) := by decide +kernel
theorem dX1_init_4 : decode cX1_init 4 = .ok (.aload_n 0, 1) := by decide +kernel
theorem dX1_init_5 : decode cX1_init 5 = .ok (.bipush 8, 2) := by decide +kernel
theorem dX1_init_7 : decode cX1_init 7 = .ok (.newarray .int, 2) := by decide +kernel
theorem dX1_init_9 : decode cX1_init 9 = .ok (.putfield 9, 3) := by decide +kernel
theorem dX1_init_12 : decode cX1_init 12 = .ok (.aload_n 0, 1) := by decide +kernel
theorem dX1_init_13 : decode cX1_init 13 = .ok (.bipush 8, 2) := by decide +kernel
theorem dX1_init_15 : decode cX1_init 15 = .ok (.newarray .int, 2) := by decide +kernel
theorem dX1_init_17 : decode cX1_init 17 = .ok (.putfield 15, 3) := by decide +kernel
theorem dX1_init_20 : decode cX1_init 20 = .ok (.aload_n 0, 1) := by decide +kernel
theorem dX1_init_21 : decode cX1_init 21 = .ok (.bipush 8, 2) := by decide +kernel
theorem dX1_init_23 : decode cX1_init 23 = .ok (.newarray .int, 2) := by decide +kernel
theorem dX1_init_25 : decode cX1_init 25 = .ok (.putfield 18, 3) := by decide +kernel
theorem dX1_init_28 : decode cX1_init 28 = .ok (.aload_n 0, 1) := by decide +kernel
theorem dX1_init_29 : decode cX1_init 29 = .ok (.bipush 8, 2) := by decide +kernel
theorem dX1_init_31 : decode cX1_init 31 = .ok (.newarray .int, 2) := by decide +kernel
theorem dX1_init_33 : decode cX1_init 33 = .ok (.putfield 21, 3) := by decide +kernel
theorem dX1_init_36 : decode cX1_init 36 = .ok (.aload_n 0, 1) := by decide +kernel
theorem dX1_init_37 : decode cX1_init 37 = .ok (.bipush 8, 2) := by decide +kernel
theorem dX1_init_39 : decode cX1_init 39 = .ok (.newarray .int, 2) := by decide +kernel
theorem dX1_init_41 : decode cX1_init 41 = .ok (.putfield 24, 3) := by decide +kernel
theorem dX1_init_44 : decode cX1_init 44 = .ok (.aload_n 0, 1) := by decide +kernel
theorem dX1_init_45 : decode cX1_init 45 = .ok (.bipush 10, 2) := by decide +kernel
theorem dX1_init_47 : decode cX1_init 47 = .ok (.newarray .int, 2) := by decide +kernel
theorem dX1_init_49 : decode cX1_init 49 = .ok (.putfield 27, 3) := by decide +kernel
theorem dX1_init_52 : decode cX1_init 52 = .ok (.aload_n 0, 1) := by decide +kernel
theorem dX1_init_53 : decode cX1_init 53 = .ok (.iconst 0, 1) := by decide +kernel
theorem dX1_init_54 : decode cX1_init 54 = .ok (.putfield 30, 3) := by decide +kernel
theorem dX1_init_57 : decode cX1_init 57 = .ok (.aload_n 0, 1) := by decide +kernel
theorem dX1_init_58 : decode cX1_init 58 = .ok (.ldc 34, 2) := by decide +kernel
theorem dX1_init_60 : decode cX1_init 60 = .ok (.putfield 35, 3) := by decide +kernel
theorem dX1_init_63 : decode cX1_init 63 = .ok (.aload_n 0, 1) := by decide +kernel
theorem dX1_init_64 : decode cX1_init 64 = .ok (.iconst 0, 1) := by decide +kernel
theorem dX1_init_65 : decode cX1_init 65 = .ok (.putfield 38, 3) := by decide +kernel
theorem dX1_init_68 : decode cX1_init 68 = .ok (.aload_n 0, 1) := by decide +kernel
theorem dX1_init_69 : decode cX1_init 69 = .ok (.iconst 0, 1) := by decide +kernel
theorem dX1_init_70 : decode cX1_init 70 = .ok (.putfield 41, 3) := by decide +kernel
theorem dX1_init_73 : decode cX1_init 73 = .ok (.aload_n 0, 1) := by decide +kernel
theorem dX1_init_74 : decode cX1_init 74 = .ok (.iconst 0, 1) := by decide +kernel
theorem dX1_init_75 : decode cX1_init 75 = .ok (.putfield 44, 3) := by decide +kernel
theorem dX1_init_78 : decode cX1_init 78 = .ok (.aload_n 0, 1) := by decide +kernel
theorem dX1_init_79 : decode cX1_init 79 = .ok (.iconst 1, 1) := by decide +kernel
theorem dX1_init_80 : decode cX1_init 80 = .ok (.putfield 47, 3) := by decide +kernel
theorem dX1_init_83 : decode cX1_init 83 = .ok (.iconst 0, 1) := by decide +kernel
theorem dX1_init_84 : decode cX1_init 84 = .ok (.istore_n 1, 1) := by decide +kernel
theorem dX1_init_85 : decode cX1_init 85 = .ok (.iload_n 1, 1) := by decide +kernel
theorem dX1_init_86 : decode cX1_init 86 = .ok (.bipush 10, 2) := by decide +kernel
theorem dX1_init_88 : decode cX1_init 88 = .ok (.if_icmp .ge 16, 3) := by decide +kernel
theorem dX1_init_91 : decode cX1_init 91 = .ok (.aload_n 0, 1) := by decide +kernel
theorem dX1_init_92 : decode cX1_init 92 = .ok (.getfield 27, 3) := by decide +kernel
theorem dX1_init_95 : decode cX1_init 95 = .ok (.iload_n 1, 1) := by decide +kernel
theorem dX1_init_96 : decode cX1_init 96 = .ok (.iconst (-1), 1) := by decide +kernel
theorem dX1_init_97 : decode cX1_init 97 = .ok (.iastore, 1) := by decide +kernel
theorem dX1_init_98 : decode cX1_init 98 = .ok (.iinc 1 1, 3) := by decide +kernel
theorem dX1_init_101 : decode cX1_init 101 = .ok (.goto (-16), 3) := by decide +kernel
theorem dX1_init_104 : decode cX1_init 104 = .ok (.return_, 1) := by decide +kernel
theorem dX1_become_0 : decode cX1_become 0 = .ok (.aload_n 1, 1) := by decide +kernel
theorem dX1_become_1 : decode cX1_become 1 = .ok (.getfield 9, 3) := by decide +kernel
theorem dX1_become_4 : decode cX1_become 4 = .ok (.iconst 0, 1) := by decide +kernel
theorem dX1_become_5 : decode cX1_become 5 = .ok (.aload_n 0, 1) := by decide +kernel
theorem dX1_become_6 : decode cX1_become 6 = .ok (.getfield 9, 3) := by decide +kernel
theorem dX1_become_9 : decode cX1_become 9 = .ok (.iconst 0, 1) := by decide +kernel
theorem dX1_become_10 : decode cX1_become 10 = .ok (.bipush 8, 2) := by decide +kernel
theorem dX1_become_12 : decode cX1_become 12 = .ok (.invokestatic 50, 3) := by decide +kernel
theorem dX1_become_15 : decode cX1_become 15 = .ok (.aload_n 1, 1) := by decide +kernel
theorem dX1_become_16 : decode cX1_become 16 = .ok (.getfield 15, 3) := by decide +kernel
theorem dX1_become_19 : decode cX1_become 19 = .ok (.iconst 0, 1) := by decide +kernel
theorem dX1_become_20 : decode cX1_become 20 = .ok (.aload_n 0, 1) := by decide +kernel
theorem dX1_become_21 : decode cX1_become 21 = .ok (.getfield 15, 3) := by decide +kernel
theorem dX1_become_24 : decode cX1_become 24 = .ok (.iconst 0, 1) := by decide +kernel
theorem dX1_become_25 : decode cX1_become 25 = .ok (.bipush 8, 2) := by decide +kernel
theorem dX1_become_27 : decode cX1_become 27 = .ok (.invokestatic 50, 3) := by decide +kernel
theorem dX1_become_30 : decode cX1_become 30 = .ok (.aload_n 1, 1) := by decide +kernel
theorem dX1_become_31 : decode cX1_become 31 = .ok (.getfield 18, 3) := by decide +kernel
theorem dX1_become_34 : decode cX1_become 34 = .ok (.iconst 0, 1) := by decide +kernel
theorem dX1_become_35 : decode cX1_become 35 = .ok (.aload_n 0, 1) := by decide +kernel
theorem dX1_become_36 : decode cX1_become 36 = .ok (.getfield 18, 3) := by decide +kernel
theorem dX1_become_39 : decode cX1_become 39 = .ok (.iconst 0, 1) := by decide +kernel
theorem dX1_become_40 : decode cX1_become 40 = .ok (.bipush 8, 2) := by decide +kernel
theorem dX1_become_42 : decode cX1_become 42 = .ok (.invokestatic 50, 3) := by decide +kernel
theorem dX1_become_45 : decode cX1_become 45 = .ok (.aload_n 1, 1) := by decide +kernel
theorem dX1_become_46 : decode cX1_become 46 = .ok (.getfield 21, 3) := by decide +kernel
theorem dX1_become_49 : decode cX1_become 49 = .ok (.iconst 0, 1) := by decide +kernel
theorem dX1_become_50 : decode cX1_become 50 = .ok (.aload_n 0, 1) := by decide +kernel
theorem dX1_become_51 : decode cX1_become 51 = .ok (.getfield 21, 3) := by decide +kernel
theorem dX1_become_54 : decode cX1_become 54 = .ok (.iconst 0, 1) := by decide +kernel
theorem dX1_become_55 : decode cX1_become 55 = .ok (.bipush 8, 2) := by decide +kernel
theorem dX1_become_57 : decode cX1_become 57 = .ok (.invokestatic 50, 3) := by decide +kernel
theorem dX1_become_60 : decode cX1_become 60 = .ok (.aload_n 1, 1) := by decide +kernel
theorem dX1_become_61 : decode cX1_become 61 = .ok (.getfield 24, 3) := by decide +kernel
theorem dX1_become_64 : decode cX1_become 64 = .ok (.iconst 0, 1) := by decide +kernel
theorem dX1_become_65 : decode cX1_become 65 = .ok (.aload_n 0, 1) := by decide +kernel
theorem dX1_become_66 : decode cX1_become 66 = .ok (.getfield 24, 3) := by decide +kernel
theorem dX1_become_69 : decode cX1_become 69 = .ok (.iconst 0, 1) := by decide +kernel
theorem dX1_become_70 : decode cX1_become 70 = .ok (.bipush 8, 2) := by decide +kernel
theorem dX1_become_72 : decode cX1_become 72 = .ok (.invokestatic 50, 3) := by decide +kernel
theorem dX1_become_75 : decode cX1_become 75 = .ok (.aload_n 1, 1) := by decide +kernel
theorem dX1_become_76 : decode cX1_become 76 = .ok (.getfield 27, 3) := by decide +kernel
theorem dX1_become_79 : decode cX1_become 79 = .ok (.iconst 0, 1) := by decide +kernel
theorem dX1_become_80 : decode cX1_become 80 = .ok (.aload_n 0, 1) := by decide +kernel
theorem dX1_become_81 : decode cX1_become 81 = .ok (.getfield 27, 3) := by decide +kernel
theorem dX1_become_84 : decode cX1_become 84 = .ok (.iconst 0, 1) := by decide +kernel
theorem dX1_become_85 : decode cX1_become 85 = .ok (.bipush 10, 2) := by decide +kernel
theorem dX1_become_87 : decode cX1_become 87 = .ok (.invokestatic 50, 3) := by decide +kernel
theorem dX1_become_90 : decode cX1_become 90 = .ok (.aload_n 0, 1) := by decide +kernel
theorem dX1_become_91 : decode cX1_become 91 = .ok (.aload_n 1, 1) := by decide +kernel
theorem dX1_become_92 : decode cX1_become 92 = .ok (.getfield 30, 3) := by decide +kernel
theorem dX1_become_95 : decode cX1_become 95 = .ok (.putfield 30, 3) := by decide +kernel
theorem dX1_become_98 : decode cX1_become 98 = .ok (.aload_n 0, 1) := by decide +kernel
theorem dX1_become_99 : decode cX1_become 99 = .ok (.aload_n 1, 1) := by decide +kernel
theorem dX1_become_100 : decode cX1_become 100 = .ok (.getfield 35, 3) := by decide +kernel
theorem dX1_become_103 : decode cX1_become 103 = .ok (.putfield 35, 3) := by decide +kernel
theorem dX1_become_106 : decode cX1_become 106 = .ok (.aload_n 0, 1) := by decide +kernel
theorem dX1_become_107 : decode cX1_become 107 = .ok (.aload_n 1, 1) := by decide +kernel
theorem dX1_become_108 : decode cX1_become 108 = .ok (.getfield 38, 3) := by decide +kernel
theorem dX1_become_111 : decode cX1_become 111 = .ok (.putfield 38, 3) := by decide +kernel
theorem dX1_become_114 : decode cX1_become 114 = .ok (.aload_n 0, 1) := by decide +kernel
theorem dX1_become_115 : decode cX1_become 115 = .ok (.aload_n 1, 1) := by decide +kernel
theorem dX1_become_116 : decode cX1_become 116 = .ok (.getfield 41, 3) := by decide +kernel
theorem dX1_become_119 : decode cX1_become 119 = .ok (.putfield 41, 3) := by decide +kernel
theorem dX1_become_122 : decode cX1_become 122 = .ok (.aload_n 0, 1) := by decide +kernel
theorem dX1_become_123 : decode cX1_become 123 = .ok (.aload_n 1, 1) := by decide +kernel
theorem dX1_become_124 : decode cX1_become 124 = .ok (.getfield 44, 3) := by decide +kernel
theorem dX1_become_127 : decode cX1_become 127 = .ok (.putfield 44, 3) := by decide +kernel
theorem dX1_become_130 : decode cX1_become 130 = .ok (.aload_n 0, 1) := by decide +kernel
theorem dX1_become_131 : decode cX1_become 131 = .ok (.aload_n 1, 1) := by decide +kernel
theorem dX1_become_132 : decode cX1_become 132 = .ok (.getfield 47, 3) := by decide +kernel
theorem dX1_become_135 : decode cX1_become 135 = .ok (.putfield 47, 3) := by decide +kernel
theorem dX1_become_138 : decode cX1_become 138 = .ok (.return_, 1) := by decide +kernel
theorem dX1_isFull_0 : decode cX1_isFull 0 = .ok (.aload_n 0, 1) := by decide +kernel
theorem dX1_isFull_1 : decode cX1_isFull 1 = .ok (.getfield 30, 3) := by decide +kernel
theorem dX1_isFull_4 : decode cX1_isFull 4 = .ok (.bipush 8, 2) := by decide +kernel
theorem dX1_isFull_6 : decode cX1_isFull 6 = .ok (.if_icmp .lt 7, 3) := by decide +kernel
theorem dX1_isFull_9 : decode cX1_isFull 9 = .ok (.iconst 1, 1) := by decide +kernel
theorem dX1_isFull_10 : decode cX1_isFull 10 = .ok (.goto 4, 3) := by decide +kernel
theorem dX1_isFull_13 : decode cX1_isFull 13 = .ok (.iconst 0, 1) := by decide +kernel
theorem dX1_isFull_14 : decode cX1_isFull 14 = .ok (.ireturn, 1) := by decide +kernel
theorem dX1_isPerson_0 : decode cX1_isPerson 0 = .ok (.iload_n 1, 1) := by decide +kernel
theorem dX1_isPerson_1 : decode cX1_isPerson 1 = .ok (.ifCond .lt 15, 3) := by decide +kernel
theorem dX1_isPerson_4 : decode cX1_isPerson 4 = .ok (.iload_n 1, 1) := by decide +kernel
theorem dX1_isPerson_5 : decode cX1_isPerson 5 = .ok (.aload_n 0, 1) := by decide +kernel
theorem dX1_isPerson_6 : decode cX1_isPerson 6 = .ok (.getfield 30, 3) := by decide +kernel
theorem dX1_isPerson_9 : decode cX1_isPerson 9 = .ok (.if_icmp .ge 7, 3) := by decide +kernel
theorem dX1_isPerson_12 : decode cX1_isPerson 12 = .ok (.iconst 1, 1) := by decide +kernel
theorem dX1_isPerson_13 : decode cX1_isPerson 13 = .ok (.goto 4, 3) := by decide +kernel
theorem dX1_isPerson_16 : decode cX1_isPerson 16 = .ok (.iconst 0, 1) := by decide +kernel
theorem dX1_isPerson_17 : decode cX1_isPerson 17 = .ok (.ireturn, 1) := by decide +kernel
set_option maxRecDepth 20000 in
theorem ggX1_areTwo_X1_isPerson : GoodIn wsX1_areTwo wsX1_isPerson := goodIn_r _ [5, 6, 7, 8, 9, 10, 11, 12, 13, 14, 15, 16, 17, 18] (by decide +kernel) (by decide +kernel)
set_option maxRecDepth 20000 in
theorem gX1_areTwo_X1_isPerson : GoodIn wsX1_areTwo (wsV RX1 56 RX1 yX1_isPerson wsX1_isPerson) := goodIn_app (goodIn_of _ (by decide +kernel)) ggX1_areTwo_X1_isPerson
theorem dX1_areTwo_0 : decode cX1_areTwo 0 = .ok (.aload_n 0, 1) := by decide +kernel
theorem dX1_areTwo_1 : decode cX1_areTwo 1 = .ok (.iload_n 1, 1) := by decide +kernel
theorem dX1_areTwo_2 : decode cX1_areTwo 2 = .ok (.invokevirtual 56, 3) := by decide +kernel
theorem dX1_areTwo_5 : decode cX1_areTwo 5 = .ok (.ifCond .eq 20, 3) := by decide +kernel
theorem dX1_areTwo_8 : decode cX1_areTwo 8 = .ok (.aload_n 0, 1) := by decide +kernel
theorem dX1_areTwo_9 : decode cX1_areTwo 9 = .ok (.iload_n 2, 1) := by decide +kernel
theorem dX1_areTwo_10 : decode cX1_areTwo 10 = .ok (.invokevirtual 56, 3) := by decide +kernel
theorem dX1_areTwo_13 : decode cX1_areTwo 13 = .ok (.ifCond .eq 12, 3) := by decide +kernel
theorem dX1_areTwo_16 : decode cX1_areTwo 16 = .ok (.iload_n 1, 1) := by decide +kernel
theorem dX1_areTwo_17 : decode cX1_areTwo 17 = .ok (.iload_n 2, 1) := by decide +kernel
theorem dX1_areTwo_18 : decode cX1_areTwo 18 = .ok (.if_icmp .eq 7, 3) := by decide +kernel
theorem dX1_areTwo_21 : decode cX1_areTwo 21 = .ok (.iconst 1, 1) := by decide +kernel
theorem dX1_areTwo_22 : decode cX1_areTwo 22 = .ok (.goto 4, 3) := by decide +kernel
theorem dX1_areTwo_25 : decode cX1_areTwo 25 = .ok (.iconst 0, 1) := by decide +kernel
theorem dX1_areTwo_26 : decode cX1_areTwo 26 = .ok (.ireturn, 1) := by decide +kernel
theorem dX1_everybody_0 : decode cX1_everybody 0 = .ok (.iconst 1, 1) := by decide +kernel
theorem dX1_everybody_1 : decode cX1_everybody 1 = .ok (.aload_n 0, 1) := by decide +kernel
theorem dX1_everybody_2 : decode cX1_everybody 2 = .ok (.getfield 30, 3) := by decide +kernel
theorem dX1_everybody_5 : decode cX1_everybody 5 = .ok (.ishl, 1) := by decide +kernel
theorem dX1_everybody_6 : decode cX1_everybody 6 = .ok (.iconst 1, 1) := by decide +kernel
theorem dX1_everybody_7 : decode cX1_everybody 7 = .ok (.isub, 1) := by decide +kernel
theorem dX1_everybody_8 : decode cX1_everybody 8 = .ok (.ireturn, 1) := by decide +kernel
theorem dX1_hoursLeft_0 : decode cX1_hoursLeft 0 = .ok (.ldc 34, 2) := by decide +kernel
theorem dX1_hoursLeft_2 : decode cX1_hoursLeft 2 = .ok (.aload_n 0, 1) := by decide +kernel
theorem dX1_hoursLeft_3 : decode cX1_hoursLeft 3 = .ok (.getfield 38, 3) := by decide +kernel
theorem dX1_hoursLeft_6 : decode cX1_hoursLeft 6 = .ok (.ishl, 1) := by decide +kernel
theorem dX1_hoursLeft_7 : decode cX1_hoursLeft 7 = .ok (.ldc 34, 2) := by decide +kernel
theorem dX1_hoursLeft_9 : decode cX1_hoursLeft 9 = .ok (.iand, 1) := by decide +kernel
theorem dX1_hoursLeft_10 : decode cX1_hoursLeft 10 = .ok (.ireturn, 1) := by decide +kernel
set_option maxRecDepth 20000 in
theorem ggX1_add_X1_isFull : GoodIn wsX1_add wsX1_isFull := goodIn_r _ [11, 2, 12, 13, 14, 15, 16, 17, 18, 19, 20, 21, 22, 23] (by decide +kernel) (by decide +kernel)
set_option maxRecDepth 20000 in
theorem gX1_add_X1_isFull : GoodIn wsX1_add (wsV RX1 60 RX1 yX1_isFull wsX1_isFull) := goodIn_app (goodIn_of _ (by decide +kernel)) ggX1_add_X1_isFull
theorem dX1_add_0 : decode cX1_add 0 = .ok (.aload_n 0, 1) := by decide +kernel
theorem dX1_add_1 : decode cX1_add 1 = .ok (.invokevirtual 60, 3) := by decide +kernel
theorem dX1_add_4 : decode cX1_add 4 = .ok (.ifCond .eq 5, 3) := by decide +kernel
theorem dX1_add_7 : decode cX1_add 7 = .ok (.iconst (-1), 1) := by decide +kernel
theorem dX1_add_8 : decode cX1_add 8 = .ok (.ireturn, 1) := by decide +kernel
theorem dX1_add_9 : decode cX1_add 9 = .ok (.aload_n 0, 1) := by decide +kernel
theorem dX1_add_10 : decode cX1_add 10 = .ok (.getfield 9, 3) := by decide +kernel
theorem dX1_add_13 : decode cX1_add 13 = .ok (.aload_n 0, 1) := by decide +kernel
theorem dX1_add_14 : decode cX1_add 14 = .ok (.getfield 30, 3) := by decide +kernel
theorem dX1_add_17 : decode cX1_add 17 = .ok (.iload_n 1, 1) := by decide +kernel
theorem dX1_add_18 : decode cX1_add 18 = .ok (.iastore, 1) := by decide +kernel
theorem dX1_add_19 : decode cX1_add 19 = .ok (.aload_n 0, 1) := by decide +kernel
theorem dX1_add_20 : decode cX1_add 20 = .ok (.getfield 15, 3) := by decide +kernel
theorem dX1_add_23 : decode cX1_add 23 = .ok (.aload_n 0, 1) := by decide +kernel
theorem dX1_add_24 : decode cX1_add 24 = .ok (.getfield 30, 3) := by decide +kernel
theorem dX1_add_27 : decode cX1_add 27 = .ok (.iconst 0, 1) := by decide +kernel
theorem dX1_add_28 : decode cX1_add 28 = .ok (.iastore, 1) := by decide +kernel
theorem dX1_add_29 : decode cX1_add 29 = .ok (.aload_n 0, 1) := by decide +kernel
theorem dX1_add_30 : decode cX1_add 30 = .ok (.getfield 18, 3) := by decide +kernel
theorem dX1_add_33 : decode cX1_add 33 = .ok (.aload_n 0, 1) := by decide +kernel
theorem dX1_add_34 : decode cX1_add 34 = .ok (.getfield 30, 3) := by decide +kernel
theorem dX1_add_37 : decode cX1_add 37 = .ok (.iconst 3, 1) := by decide +kernel
theorem dX1_add_38 : decode cX1_add 38 = .ok (.iastore, 1) := by decide +kernel
theorem dX1_add_39 : decode cX1_add 39 = .ok (.aload_n 0, 1) := by decide +kernel
theorem dX1_add_40 : decode cX1_add 40 = .ok (.getfield 21, 3) := by decide +kernel
theorem dX1_add_43 : decode cX1_add 43 = .ok (.aload_n 0, 1) := by decide +kernel
theorem dX1_add_44 : decode cX1_add 44 = .ok (.getfield 30, 3) := by decide +kernel
theorem dX1_add_47 : decode cX1_add 47 = .ok (.iconst 0, 1) := by decide +kernel
theorem dX1_add_48 : decode cX1_add 48 = .ok (.iastore, 1) := by decide +kernel
theorem dX1_add_49 : decode cX1_add 49 = .ok (.aload_n 0, 1) := by decide +kernel
theorem dX1_add_50 : decode cX1_add 50 = .ok (.getfield 24, 3) := by decide +kernel
theorem dX1_add_53 : decode cX1_add 53 = .ok (.aload_n 0, 1) := by decide +kernel
theorem dX1_add_54 : decode cX1_add 54 = .ok (.getfield 30, 3) := by decide +kernel
theorem dX1_add_57 : decode cX1_add 57 = .ok (.iconst (-1), 1) := by decide +kernel
theorem dX1_add_58 : decode cX1_add 58 = .ok (.iastore, 1) := by decide +kernel
theorem dX1_add_59 : decode cX1_add 59 = .ok (.aload_n 0, 1) := by decide +kernel
theorem dX1_add_60 : decode cX1_add 60 = .ok (.dup, 1) := by decide +kernel
theorem dX1_add_61 : decode cX1_add 61 = .ok (.getfield 30, 3) := by decide +kernel
theorem dX1_add_64 : decode cX1_add 64 = .ok (.iconst 1, 1) := by decide +kernel
theorem dX1_add_65 : decode cX1_add 65 = .ok (.iadd, 1) := by decide +kernel
theorem dX1_add_66 : decode cX1_add 66 = .ok (.putfield 30, 3) := by decide +kernel
theorem dX1_add_69 : decode cX1_add 69 = .ok (.aload_n 0, 1) := by decide +kernel
theorem dX1_add_70 : decode cX1_add 70 = .ok (.getfield 30, 3) := by decide +kernel
theorem dX1_add_73 : decode cX1_add 73 = .ok (.iconst 1, 1) := by decide +kernel
theorem dX1_add_74 : decode cX1_add 74 = .ok (.isub, 1) := by decide +kernel
theorem dX1_add_75 : decode cX1_add 75 = .ok (.ireturn, 1) := by decide +kernel
set_option maxRecDepth 20000 in
theorem ggX1_join_X1_areTwo : GoodIn wsX1_join wsX1_areTwo := goodIn_r _ [6, 7, 8, 9, 5, 10, 11, 16, 17, 18, 19, 20, 21, 22, 23, 24, 25, 26, 27] (by decide +kernel) (by decide +kernel)
set_option maxRecDepth 20000 in
theorem gX1_join_X1_areTwo : GoodIn wsX1_join (wsV RX1 64 RX1 yX1_areTwo wsX1_areTwo) := goodIn_app (goodIn_of _ (by decide +kernel)) ggX1_join_X1_areTwo
set_option maxRecDepth 20000 in
theorem ggX1_join_X1_separate : GoodIn wsX1_join wsX1_separate := goodIn_r _ [15, 1, 7, 8, 9, 5, 10, 11, 16, 17, 18, 19, 20, 21, 22, 23, 24, 25, 26, 27] (by decide +kernel) (by decide +kernel)
set_option maxRecDepth 20000 in
theorem gX1_join_X1_separate : GoodIn wsX1_join (wsV RX1 68 RX1 yX1_separate wsX1_separate) := goodIn_app (goodIn_of _ (by decide +kernel)) ggX1_join_X1_separate
theorem dX1_join_0 : decode cX1_join 0 = .ok (.aload_n 0, 1) := by decide +kernel
theorem dX1_join_1 : decode cX1_join 1 = .ok (.iload_n 1, 1) := by decide +kernel
theorem dX1_join_2 : decode cX1_join 2 = .ok (.iload_n 2, 1) := by decide +kernel
theorem dX1_join_3 : decode cX1_join 3 = .ok (.invokevirtual 64, 3) := by decide +kernel
theorem dX1_join_6 : decode cX1_join 6 = .ok (.ifCond .eq 27, 3) := by decide +kernel
theorem dX1_join_9 : decode cX1_join 9 = .ok (.aload_n 0, 1) := by decide +kernel
theorem dX1_join_10 : decode cX1_join 10 = .ok (.iload_n 1, 1) := by decide +kernel
theorem dX1_join_11 : decode cX1_join 11 = .ok (.invokevirtual 68, 3) := by decide +kernel
theorem dX1_join_14 : decode cX1_join 14 = .ok (.aload_n 0, 1) := by decide +kernel
theorem dX1_join_15 : decode cX1_join 15 = .ok (.iload_n 2, 1) := by decide +kernel
theorem dX1_join_16 : decode cX1_join 16 = .ok (.invokevirtual 68, 3) := by decide +kernel
theorem dX1_join_19 : decode cX1_join 19 = .ok (.aload_n 0, 1) := by decide +kernel
theorem dX1_join_20 : decode cX1_join 20 = .ok (.getfield 24, 3) := by decide +kernel
theorem dX1_join_23 : decode cX1_join 23 = .ok (.iload_n 1, 1) := by decide +kernel
theorem dX1_join_24 : decode cX1_join 24 = .ok (.iload_n 2, 1) := by decide +kernel
theorem dX1_join_25 : decode cX1_join 25 = .ok (.iastore, 1) := by decide +kernel
theorem dX1_join_26 : decode cX1_join 26 = .ok (.aload_n 0, 1) := by decide +kernel
theorem dX1_join_27 : decode cX1_join 27 = .ok (.getfield 24, 3) := by decide +kernel
theorem dX1_join_30 : decode cX1_join 30 = .ok (.iload_n 2, 1) := by decide +kernel
theorem dX1_join_31 : decode cX1_join 31 = .ok (.iload_n 1, 1) := by decide +kernel
theorem dX1_join_32 : decode cX1_join 32 = .ok (.iastore, 1) := by decide +kernel
theorem dX1_join_33 : decode cX1_join 33 = .ok (.return_, 1) := by decide +kernel
set_option maxRecDepth 20000 in
theorem ggX1_separate_X1_isPerson : GoodIn wsX1_separate wsX1_isPerson := goodIn_r _ [6, 7, 8, 9, 10, 11, 12, 13, 14, 15, 16, 17, 18, 19] (by decide +kernel) (by decide +kernel)
set_option maxRecDepth 20000 in
theorem gX1_separate_X1_isPerson : GoodIn wsX1_separate (wsV RX1 56 RX1 yX1_isPerson wsX1_isPerson) := goodIn_app (goodIn_of _ (by decide +kernel)) ggX1_separate_X1_isPerson
theorem dX1_separate_0 : decode cX1_separate 0 = .ok (.aload_n 0, 1) := by decide +kernel
theorem dX1_separate_1 : decode cX1_separate 1 = .ok (.iload_n 1, 1) := by decide +kernel
theorem dX1_separate_2 : decode cX1_separate 2 = .ok (.invokevirtual 56, 3) := by decide +kernel
theorem dX1_separate_5 : decode cX1_separate 5 = .ok (.ifCond .eq 35, 3) := by decide +kernel
theorem dX1_separate_8 : decode cX1_separate 8 = .ok (.aload_n 0, 1) := by decide +kernel
theorem dX1_separate_9 : decode cX1_separate 9 = .ok (.aload_n 0, 1) := by decide +kernel
theorem dX1_separate_10 : decode cX1_separate 10 = .ok (.getfield 24, 3) := by decide +kernel
theorem dX1_separate_13 : decode cX1_separate 13 = .ok (.iload_n 1, 1) := by decide +kernel
theorem dX1_separate_14 : decode cX1_separate 14 = .ok (.iaload, 1) := by decide +kernel
theorem dX1_separate_15 : decode cX1_separate 15 = .ok (.invokevirtual 56, 3) := by decide +kernel
theorem dX1_separate_18 : decode cX1_separate 18 = .ok (.ifCond .eq 22, 3) := by decide +kernel
theorem dX1_separate_21 : decode cX1_separate 21 = .ok (.aload_n 0, 1) := by decide +kernel
theorem dX1_separate_22 : decode cX1_separate 22 = .ok (.getfield 24, 3) := by decide +kernel
theorem dX1_separate_25 : decode cX1_separate 25 = .ok (.aload_n 0, 1) := by decide +kernel
theorem dX1_separate_26 : decode cX1_separate 26 = .ok (.getfield 24, 3) := by decide +kernel
theorem dX1_separate_29 : decode cX1_separate 29 = .ok (.iload_n 1, 1) := by decide +kernel
theorem dX1_separate_30 : decode cX1_separate 30 = .ok (.iaload, 1) := by decide +kernel
theorem dX1_separate_31 : decode cX1_separate 31 = .ok (.iconst (-1), 1) := by decide +kernel
theorem dX1_separate_32 : decode cX1_separate 32 = .ok (.iastore, 1) := by decide +kernel
theorem dX1_separate_33 : decode cX1_separate 33 = .ok (.aload_n 0, 1) := by decide +kernel
theorem dX1_separate_34 : decode cX1_separate 34 = .ok (.getfield 24, 3) := by decide +kernel
theorem dX1_separate_37 : decode cX1_separate 37 = .ok (.iload_n 1, 1) := by decide +kernel
theorem dX1_separate_38 : decode cX1_separate 38 = .ok (.iconst (-1), 1) := by decide +kernel
theorem dX1_separate_39 : decode cX1_separate 39 = .ok (.iastore, 1) := by decide +kernel
theorem dX1_separate_40 : decode cX1_separate 40 = .ok (.return_, 1) := by decide +kernel
set_option maxRecDepth 20000 in
theorem ggX1_isOfKind_X1_isPerson : GoodIn wsX1_isOfKind wsX1_isPerson := goodIn_r _ [7, 8, 12, 13, 14, 15, 16, 17, 18, 19, 20, 21, 22, 23] (by decide +kernel) (by decide +kernel)
set_option maxRecDepth 20000 in
theorem gX1_isOfKind_X1_isPerson : GoodIn wsX1_isOfKind (wsV RX1 56 RX1 yX1_isPerson wsX1_isPerson) := goodIn_app (goodIn_of _ (by decide +kernel)) ggX1_isOfKind_X1_isPerson
set_option maxRecDepth 20000 in
theorem ggX1_isOfKind_X7_isWithin : GoodIn wsX1_isOfKind wsX7_isWithin := goodIn_r _ [11] (by decide +kernel) (by decide +kernel)
set_option maxRecDepth 20000 in
theorem gX1_isOfKind_X7_isWithin_n72 : GoodIn wsX1_isOfKind (wsX7_isWithin) := ggX1_isOfKind_X7_isWithin
theorem dX1_isOfKind_0 : decode cX1_isOfKind 0 = .ok (.aload_n 0, 1) := by decide +kernel
theorem dX1_isOfKind_1 : decode cX1_isOfKind 1 = .ok (.iload_n 1, 1) := by decide +kernel
theorem dX1_isOfKind_2 : decode cX1_isOfKind 2 = .ok (.invokevirtual 56, 3) := by decide +kernel
theorem dX1_isOfKind_5 : decode cX1_isOfKind 5 = .ok (.ifCond .ne 5, 3) := by decide +kernel
theorem dX1_isOfKind_8 : decode cX1_isOfKind 8 = .ok (.iconst 0, 1) := by decide +kernel
theorem dX1_isOfKind_9 : decode cX1_isOfKind 9 = .ok (.ireturn, 1) := by decide +kernel
theorem dX1_isOfKind_10 : decode cX1_isOfKind 10 = .ok (.aload_n 0, 1) := by decide +kernel
theorem dX1_isOfKind_11 : decode cX1_isOfKind 11 = .ok (.getfield 9, 3) := by decide +kernel
theorem dX1_isOfKind_14 : decode cX1_isOfKind 14 = .ok (.iload_n 1, 1) := by decide +kernel
theorem dX1_isOfKind_15 : decode cX1_isOfKind 15 = .ok (.iaload, 1) := by decide +kernel
theorem dX1_isOfKind_16 : decode cX1_isOfKind 16 = .ok (.istore_n 3, 1) := by decide +kernel
theorem dX1_isOfKind_17 : decode cX1_isOfKind 17 = .ok (.iconst 0, 1) := by decide +kernel
theorem dX1_isOfKind_18 : decode cX1_isOfKind 18 = .ok (.istore 4, 2) := by decide +kernel
theorem dX1_isOfKind_20 : decode cX1_isOfKind 20 = .ok (.iload 4, 2) := by decide +kernel
theorem dX1_isOfKind_22 : decode cX1_isOfKind 22 = .ok (.bipush 7, 2) := by decide +kernel
theorem dX1_isOfKind_24 : decode cX1_isOfKind 24 = .ok (.if_icmp .ge 33, 3) := by decide +kernel
theorem dX1_isOfKind_27 : decode cX1_isOfKind 27 = .ok (.iload_n 3, 1) := by decide +kernel
theorem dX1_isOfKind_28 : decode cX1_isOfKind 28 = .ok (.iload_n 2, 1) := by decide +kernel
theorem dX1_isOfKind_29 : decode cX1_isOfKind 29 = .ok (.if_icmp .ne 5, 3) := by decide +kernel
theorem dX1_isOfKind_32 : decode cX1_isOfKind 32 = .ok (.iconst 1, 1) := by decide +kernel
theorem dX1_isOfKind_33 : decode cX1_isOfKind 33 = .ok (.ireturn, 1) := by decide +kernel
theorem dX1_isOfKind_34 : decode cX1_isOfKind 34 = .ok (.iload_n 3, 1) := by decide +kernel
theorem dX1_isOfKind_35 : decode cX1_isOfKind 35 = .ok (.bipush 6, 2) := by decide +kernel
theorem dX1_isOfKind_37 : decode cX1_isOfKind 37 = .ok (.invokestatic 72, 3) := by decide +kernel
theorem dX1_isOfKind_40 : decode cX1_isOfKind 40 = .ok (.ifCond .ne 5, 3) := by decide +kernel
theorem dX1_isOfKind_43 : decode cX1_isOfKind 43 = .ok (.iconst 0, 1) := by decide +kernel
theorem dX1_isOfKind_44 : decode cX1_isOfKind 44 = .ok (.ireturn, 1) := by decide +kernel
theorem dX1_isOfKind_45 : decode cX1_isOfKind 45 = .ok (.getstatic 75, 3) := by decide +kernel
theorem dX1_isOfKind_48 : decode cX1_isOfKind 48 = .ok (.iload_n 3, 1) := by decide +kernel
theorem dX1_isOfKind_49 : decode cX1_isOfKind 49 = .ok (.iaload, 1) := by decide +kernel
theorem dX1_isOfKind_50 : decode cX1_isOfKind 50 = .ok (.istore_n 3, 1) := by decide +kernel
theorem dX1_isOfKind_51 : decode cX1_isOfKind 51 = .ok (.iinc 4 1, 3) := by decide +kernel
theorem dX1_isOfKind_54 : decode cX1_isOfKind 54 = .ok (.goto (-34), 3) := by decide +kernel
theorem dX1_isOfKind_57 : decode cX1_isOfKind 57 = .ok (.iconst 0, 1) := by decide +kernel
theorem dX1_isOfKind_58 : decode cX1_isOfKind 58 = .ok (.ireturn, 1) := by decide +kernel
theorem dX1_claimOf_0 : decode cX1_claimOf 0 = .ok (.iload_n 1, 1) := by decide +kernel
theorem dX1_claimOf_1 : decode cX1_claimOf 1 = .ok (.ifCond .lt 11, 3) := by decide +kernel
theorem dX1_claimOf_4 : decode cX1_claimOf 4 = .ok (.iload_n 1, 1) := by decide +kernel
theorem dX1_claimOf_5 : decode cX1_claimOf 5 = .ok (.aload_n 0, 1) := by decide +kernel
theorem dX1_claimOf_6 : decode cX1_claimOf 6 = .ok (.getfield 30, 3) := by decide +kernel
theorem dX1_claimOf_9 : decode cX1_claimOf 9 = .ok (.if_icmp .lt 5, 3) := by decide +kernel
theorem dX1_claimOf_12 : decode cX1_claimOf 12 = .ok (.iconst 0, 1) := by decide +kernel
theorem dX1_claimOf_13 : decode cX1_claimOf 13 = .ok (.ireturn, 1) := by decide +kernel
theorem dX1_claimOf_14 : decode cX1_claimOf 14 = .ok (.iload_n 2, 1) := by decide +kernel
theorem dX1_claimOf_15 : decode cX1_claimOf 15 = .ok (.iconst 2, 1) := by decide +kernel
theorem dX1_claimOf_16 : decode cX1_claimOf 16 = .ok (.irem, 1) := by decide +kernel
theorem dX1_claimOf_17 : decode cX1_claimOf 17 = .ok (.ifCond .ne 7, 3) := by decide +kernel
theorem dX1_claimOf_20 : decode cX1_claimOf 20 = .ok (.iconst 1, 1) := by decide +kernel
theorem dX1_claimOf_21 : decode cX1_claimOf 21 = .ok (.goto 4, 3) := by decide +kernel
theorem dX1_claimOf_24 : decode cX1_claimOf 24 = .ok (.iconst 0, 1) := by decide +kernel
theorem dX1_claimOf_25 : decode cX1_claimOf 25 = .ok (.istore_n 3, 1) := by decide +kernel
theorem dX1_claimOf_26 : decode cX1_claimOf 26 = .ok (.aload_n 0, 1) := by decide +kernel
theorem dX1_claimOf_27 : decode cX1_claimOf 27 = .ok (.getfield 15, 3) := by decide +kernel
theorem dX1_claimOf_30 : decode cX1_claimOf 30 = .ok (.iload_n 1, 1) := by decide +kernel
theorem dX1_claimOf_31 : decode cX1_claimOf 31 = .ok (.iaload, 1) := by decide +kernel
theorem dX1_claimOf_32 : decode cX1_claimOf 32 = .ok (.istore 4, 2) := by decide +kernel
theorem dX1_claimOf_34 : decode cX1_claimOf 34 = .ok (.aload_n 0, 1) := by decide +kernel
theorem dX1_claimOf_35 : decode cX1_claimOf 35 = .ok (.getfield 9, 3) := by decide +kernel
theorem dX1_claimOf_38 : decode cX1_claimOf 38 = .ok (.iload_n 1, 1) := by decide +kernel
theorem dX1_claimOf_39 : decode cX1_claimOf 39 = .ok (.iaload, 1) := by decide +kernel
theorem dX1_claimOf_40 : decode cX1_claimOf 40 = .ok (.tableswitch 127 1 6 #[40, 52, 58, 66, 82, 104], 40) := by decide +kernel
theorem dX1_claimOf_80 : decode cX1_claimOf 80 = .ok (.iload 4, 2) := by decide +kernel
theorem dX1_claimOf_82 : decode cX1_claimOf 82 = .ok (.iconst 2, 1) := by decide +kernel
theorem dX1_claimOf_83 : decode cX1_claimOf 83 = .ok (.aload_n 0, 1) := by decide +kernel
theorem dX1_claimOf_84 : decode cX1_claimOf 84 = .ok (.getfield 18, 3) := by decide +kernel
theorem dX1_claimOf_87 : decode cX1_claimOf 87 = .ok (.iload_n 1, 1) := by decide +kernel
theorem dX1_claimOf_88 : decode cX1_claimOf 88 = .ok (.iaload, 1) := by decide +kernel
theorem dX1_claimOf_89 : decode cX1_claimOf 89 = .ok (.imul, 1) := by decide +kernel
theorem dX1_claimOf_90 : decode cX1_claimOf 90 = .ok (.iadd, 1) := by decide +kernel
theorem dX1_claimOf_91 : decode cX1_claimOf 91 = .ok (.ireturn, 1) := by decide +kernel
theorem dX1_claimOf_92 : decode cX1_claimOf 92 = .ok (.iload 4, 2) := by decide +kernel
theorem dX1_claimOf_94 : decode cX1_claimOf 94 = .ok (.bipush 10, 2) := by decide +kernel
theorem dX1_claimOf_96 : decode cX1_claimOf 96 = .ok (.iadd, 1) := by decide +kernel
theorem dX1_claimOf_97 : decode cX1_claimOf 97 = .ok (.ireturn, 1) := by decide +kernel
theorem dX1_claimOf_98 : decode cX1_claimOf 98 = .ok (.iload 4, 2) := by decide +kernel
theorem dX1_claimOf_100 : decode cX1_claimOf 100 = .ok (.bipush 10, 2) := by decide +kernel
theorem dX1_claimOf_102 : decode cX1_claimOf 102 = .ok (.iadd, 1) := by decide +kernel
theorem dX1_claimOf_103 : decode cX1_claimOf 103 = .ok (.iconst 2, 1) := by decide +kernel
theorem dX1_claimOf_104 : decode cX1_claimOf 104 = .ok (.idiv, 1) := by decide +kernel
theorem dX1_claimOf_105 : decode cX1_claimOf 105 = .ok (.ireturn, 1) := by decide +kernel
theorem dX1_claimOf_106 : decode cX1_claimOf 106 = .ok (.iload_n 3, 1) := by decide +kernel
theorem dX1_claimOf_107 : decode cX1_claimOf 107 = .ok (.ifCond .eq 13, 3) := by decide +kernel
theorem dX1_claimOf_110 : decode cX1_claimOf 110 = .ok (.iload 4, 2) := by decide +kernel
theorem dX1_claimOf_112 : decode cX1_claimOf 112 = .ok (.bipush 10, 2) := by decide +kernel
theorem dX1_claimOf_114 : decode cX1_claimOf 114 = .ok (.iadd, 1) := by decide +kernel
theorem dX1_claimOf_115 : decode cX1_claimOf 115 = .ok (.iconst 2, 1) := by decide +kernel
theorem dX1_claimOf_116 : decode cX1_claimOf 116 = .ok (.idiv, 1) := by decide +kernel
theorem dX1_claimOf_117 : decode cX1_claimOf 117 = .ok (.goto 4, 3) := by decide +kernel
theorem dX1_claimOf_120 : decode cX1_claimOf 120 = .ok (.iconst 0, 1) := by decide +kernel
theorem dX1_claimOf_121 : decode cX1_claimOf 121 = .ok (.ireturn, 1) := by decide +kernel
theorem dX1_claimOf_122 : decode cX1_claimOf 122 = .ok (.iload_n 3, 1) := by decide +kernel
theorem dX1_claimOf_123 : decode cX1_claimOf 123 = .ok (.iload_n 1, 1) := by decide +kernel
theorem dX1_claimOf_124 : decode cX1_claimOf 124 = .ok (.iconst 2, 1) := by decide +kernel
theorem dX1_claimOf_125 : decode cX1_claimOf 125 = .ok (.irem, 1) := by decide +kernel
theorem dX1_claimOf_126 : decode cX1_claimOf 126 = .ok (.ifCond .ne 7, 3) := by decide +kernel
theorem dX1_claimOf_129 : decode cX1_claimOf 129 = .ok (.iconst 1, 1) := by decide +kernel
theorem dX1_claimOf_130 : decode cX1_claimOf 130 = .ok (.goto 4, 3) := by decide +kernel
theorem dX1_claimOf_133 : decode cX1_claimOf 133 = .ok (.iconst 0, 1) := by decide +kernel
theorem dX1_claimOf_134 : decode cX1_claimOf 134 = .ok (.if_icmp .ne 8, 3) := by decide +kernel
theorem dX1_claimOf_137 : decode cX1_claimOf 137 = .ok (.bipush 50, 2) := by decide +kernel
theorem dX1_claimOf_139 : decode cX1_claimOf 139 = .ok (.goto 4, 3) := by decide +kernel
theorem dX1_claimOf_142 : decode cX1_claimOf 142 = .ok (.iconst 0, 1) := by decide +kernel
theorem dX1_claimOf_143 : decode cX1_claimOf 143 = .ok (.ireturn, 1) := by decide +kernel
theorem dX1_claimOf_144 : decode cX1_claimOf 144 = .ok (.iload_n 2, 1) := by decide +kernel
theorem dX1_claimOf_145 : decode cX1_claimOf 145 = .ok (.bipush 8, 2) := by decide +kernel
theorem dX1_claimOf_147 : decode cX1_claimOf 147 = .ok (.if_icmp .ne 8, 3) := by decide +kernel
theorem dX1_claimOf_150 : decode cX1_claimOf 150 = .ok (.bipush 99, 2) := by decide +kernel
theorem dX1_claimOf_152 : decode cX1_claimOf 152 = .ok (.goto 14, 3) := by decide +kernel
theorem dX1_claimOf_155 : decode cX1_claimOf 155 = .ok (.iload 4, 2) := by decide +kernel
theorem dX1_claimOf_157 : decode cX1_claimOf 157 = .ok (.iconst 2, 1) := by decide +kernel
theorem dX1_claimOf_158 : decode cX1_claimOf 158 = .ok (.aload_n 0, 1) := by decide +kernel
theorem dX1_claimOf_159 : decode cX1_claimOf 159 = .ok (.getfield 18, 3) := by decide +kernel
theorem dX1_claimOf_162 : decode cX1_claimOf 162 = .ok (.iload_n 1, 1) := by decide +kernel
theorem dX1_claimOf_163 : decode cX1_claimOf 163 = .ok (.iaload, 1) := by decide +kernel
theorem dX1_claimOf_164 : decode cX1_claimOf 164 = .ok (.imul, 1) := by decide +kernel
theorem dX1_claimOf_165 : decode cX1_claimOf 165 = .ok (.iadd, 1) := by decide +kernel
theorem dX1_claimOf_166 : decode cX1_claimOf 166 = .ok (.ireturn, 1) := by decide +kernel
theorem dX1_claimOf_167 : decode cX1_claimOf 167 = .ok (.iload 4, 2) := by decide +kernel
theorem dX1_claimOf_169 : decode cX1_claimOf 169 = .ok (.ireturn, 1) := by decide +kernel
set_option maxRecDepth 20000 in
theorem ggX1_stronger_X1_claimOf : GoodIn wsX1_stronger wsX1_claimOf := goodIn_r _ [12, 13, 14, 15, 16, 17, 18, 19, 20, 21, 22, 23, 24, 25, 26, 27, 28] (by decide +kernel) (by decide +kernel)
set_option maxRecDepth 20000 in
theorem gX1_stronger_X1_claimOf : GoodIn wsX1_stronger (wsV RX1 87 RX1 yX1_claimOf wsX1_claimOf) := goodIn_app (goodIn_of _ (by decide +kernel)) ggX1_stronger_X1_claimOf
theorem dX1_stronger_0 : decode cX1_stronger 0 = .ok (.iload_n 1, 1) := by decide +kernel
theorem dX1_stronger_1 : decode cX1_stronger 1 = .ok (.iload_n 2, 1) := by decide +kernel
theorem dX1_stronger_2 : decode cX1_stronger 2 = .ok (.invokestatic 78, 3) := by decide +kernel
theorem dX1_stronger_5 : decode cX1_stronger 5 = .ok (.istore 4, 2) := by decide +kernel
theorem dX1_stronger_7 : decode cX1_stronger 7 = .ok (.iload_n 1, 1) := by decide +kernel
theorem dX1_stronger_8 : decode cX1_stronger 8 = .ok (.iload_n 2, 1) := by decide +kernel
theorem dX1_stronger_9 : decode cX1_stronger 9 = .ok (.invokestatic 84, 3) := by decide +kernel
theorem dX1_stronger_12 : decode cX1_stronger 12 = .ok (.istore 5, 2) := by decide +kernel
theorem dX1_stronger_14 : decode cX1_stronger 14 = .ok (.aload_n 0, 1) := by decide +kernel
theorem dX1_stronger_15 : decode cX1_stronger 15 = .ok (.iload 5, 2) := by decide +kernel
theorem dX1_stronger_17 : decode cX1_stronger 17 = .ok (.iload_n 3, 1) := by decide +kernel
theorem dX1_stronger_18 : decode cX1_stronger 18 = .ok (.invokevirtual 87, 3) := by decide +kernel
theorem dX1_stronger_21 : decode cX1_stronger 21 = .ok (.aload_n 0, 1) := by decide +kernel
theorem dX1_stronger_22 : decode cX1_stronger 22 = .ok (.iload 4, 2) := by decide +kernel
theorem dX1_stronger_24 : decode cX1_stronger 24 = .ok (.iload_n 3, 1) := by decide +kernel
theorem dX1_stronger_25 : decode cX1_stronger 25 = .ok (.invokevirtual 87, 3) := by decide +kernel
theorem dX1_stronger_28 : decode cX1_stronger 28 = .ok (.if_icmp .le 8, 3) := by decide +kernel
theorem dX1_stronger_31 : decode cX1_stronger 31 = .ok (.iload 5, 2) := by decide +kernel
theorem dX1_stronger_33 : decode cX1_stronger 33 = .ok (.goto 5, 3) := by decide +kernel
theorem dX1_stronger_36 : decode cX1_stronger 36 = .ok (.iload 4, 2) := by decide +kernel
theorem dX1_stronger_38 : decode cX1_stronger 38 = .ok (.ireturn, 1) := by decide +kernel
set_option maxRecDepth 20000 in
theorem ggX1_havers_X7_bit : GoodIn wsX1_havers wsX7_bit := goodIn_r _ [7] (by decide +kernel) (by decide +kernel)
set_option maxRecDepth 20000 in
theorem gX1_havers_X7_bit_n90 : GoodIn wsX1_havers (wsX7_bit) := ggX1_havers_X7_bit
set_option maxRecDepth 20000 in
theorem ggX1_havers_X1_stronger : GoodIn wsX1_havers wsX1_stronger := goodIn_r _ [12, 13, 14, 15, 16, 17, 18, 19, 20, 21, 22, 11, 23, 3, 24, 25, 26, 27, 28, 29, 30, 31, 32, 33, 34, 35, 36, 37, 38] (by decide +kernel) (by decide +kernel)
set_option maxRecDepth 20000 in
theorem gX1_havers_X1_stronger : GoodIn wsX1_havers (wsV RX1 93 RX1 yX1_stronger wsX1_stronger) := goodIn_app (goodIn_of _ (by decide +kernel)) ggX1_havers_X1_stronger
theorem dX1_havers_0 : decode cX1_havers 0 = .ok (.aload_n 0, 1) := by decide +kernel
theorem dX1_havers_1 : decode cX1_havers 1 = .ok (.getfield 38, 3) := by decide +kernel
theorem dX1_havers_4 : decode cX1_havers 4 = .ok (.bipush 16, 2) := by decide +kernel
theorem dX1_havers_6 : decode cX1_havers 6 = .ok (.if_icmp .ge 17, 3) := by decide +kernel
theorem dX1_havers_9 : decode cX1_havers 9 = .ok (.aload_n 0, 1) := by decide +kernel
theorem dX1_havers_10 : decode cX1_havers 10 = .ok (.getfield 35, 3) := by decide +kernel
theorem dX1_havers_13 : decode cX1_havers 13 = .ok (.aload_n 0, 1) := by decide +kernel
theorem dX1_havers_14 : decode cX1_havers 14 = .ok (.getfield 38, 3) := by decide +kernel
theorem dX1_havers_17 : decode cX1_havers 17 = .ok (.invokestatic 90, 3) := by decide +kernel
theorem dX1_havers_20 : decode cX1_havers 20 = .ok (.ifCond .ne 5, 3) := by decide +kernel
theorem dX1_havers_23 : decode cX1_havers 23 = .ok (.iconst 0, 1) := by decide +kernel
theorem dX1_havers_24 : decode cX1_havers 24 = .ok (.ireturn, 1) := by decide +kernel
theorem dX1_havers_25 : decode cX1_havers 25 = .ok (.iconst 0, 1) := by decide +kernel
theorem dX1_havers_26 : decode cX1_havers 26 = .ok (.istore_n 1, 1) := by decide +kernel
theorem dX1_havers_27 : decode cX1_havers 27 = .ok (.iconst 0, 1) := by decide +kernel
theorem dX1_havers_28 : decode cX1_havers 28 = .ok (.istore_n 2, 1) := by decide +kernel
theorem dX1_havers_29 : decode cX1_havers 29 = .ok (.iload_n 2, 1) := by decide +kernel
theorem dX1_havers_30 : decode cX1_havers 30 = .ok (.aload_n 0, 1) := by decide +kernel
theorem dX1_havers_31 : decode cX1_havers 31 = .ok (.getfield 30, 3) := by decide +kernel
theorem dX1_havers_34 : decode cX1_havers 34 = .ok (.if_icmp .ge 44, 3) := by decide +kernel
theorem dX1_havers_37 : decode cX1_havers 37 = .ok (.aload_n 0, 1) := by decide +kernel
theorem dX1_havers_38 : decode cX1_havers 38 = .ok (.getfield 24, 3) := by decide +kernel
theorem dX1_havers_41 : decode cX1_havers 41 = .ok (.iload_n 2, 1) := by decide +kernel
theorem dX1_havers_42 : decode cX1_havers 42 = .ok (.iaload, 1) := by decide +kernel
theorem dX1_havers_43 : decode cX1_havers 43 = .ok (.iconst (-1), 1) := by decide +kernel
theorem dX1_havers_44 : decode cX1_havers 44 = .ok (.if_icmp .eq 22, 3) := by decide +kernel
theorem dX1_havers_47 : decode cX1_havers 47 = .ok (.aload_n 0, 1) := by decide +kernel
theorem dX1_havers_48 : decode cX1_havers 48 = .ok (.iload_n 2, 1) := by decide +kernel
theorem dX1_havers_49 : decode cX1_havers 49 = .ok (.aload_n 0, 1) := by decide +kernel
theorem dX1_havers_50 : decode cX1_havers 50 = .ok (.getfield 24, 3) := by decide +kernel
theorem dX1_havers_53 : decode cX1_havers 53 = .ok (.iload_n 2, 1) := by decide +kernel
theorem dX1_havers_54 : decode cX1_havers 54 = .ok (.iaload, 1) := by decide +kernel
theorem dX1_havers_55 : decode cX1_havers 55 = .ok (.aload_n 0, 1) := by decide +kernel
theorem dX1_havers_56 : decode cX1_havers 56 = .ok (.getfield 38, 3) := by decide +kernel
theorem dX1_havers_59 : decode cX1_havers 59 = .ok (.invokevirtual 93, 3) := by decide +kernel
theorem dX1_havers_62 : decode cX1_havers 62 = .ok (.iload_n 2, 1) := by decide +kernel
theorem dX1_havers_63 : decode cX1_havers 63 = .ok (.if_icmp .ne 9, 3) := by decide +kernel
theorem dX1_havers_66 : decode cX1_havers 66 = .ok (.iload_n 1, 1) := by decide +kernel
theorem dX1_havers_67 : decode cX1_havers 67 = .ok (.iconst 1, 1) := by decide +kernel
theorem dX1_havers_68 : decode cX1_havers 68 = .ok (.iload_n 2, 1) := by decide +kernel
theorem dX1_havers_69 : decode cX1_havers 69 = .ok (.ishl, 1) := by decide +kernel
theorem dX1_havers_70 : decode cX1_havers 70 = .ok (.ior, 1) := by decide +kernel
theorem dX1_havers_71 : decode cX1_havers 71 = .ok (.istore_n 1, 1) := by decide +kernel
theorem dX1_havers_72 : decode cX1_havers 72 = .ok (.iinc 2 1, 3) := by decide +kernel
theorem dX1_havers_75 : decode cX1_havers 75 = .ok (.goto (-46), 3) := by decide +kernel
theorem dX1_havers_78 : decode cX1_havers 78 = .ok (.iload_n 1, 1) := by decide +kernel
theorem dX1_havers_79 : decode cX1_havers 79 = .ok (.ireturn, 1) := by decide +kernel
set_option maxRecDepth 20000 in
theorem ggX1_passHours_X1_havers : GoodIn wsX1_passHours wsX1_havers := goodIn_r _ [6, 1, 7, 8, 9, 10, 11, 12, 13, 14, 15, 5, 16, 17, 18, 19, 20, 21, 22, 23, 24, 25, 26, 27, 28, 29, 30, 42, 43, 44, 45, 46, 47, 48, 49, 50, 51, 52, 53] (by decide +kernel) (by decide +kernel)
set_option maxRecDepth 20000 in
theorem gX1_passHours_X1_havers : GoodIn wsX1_passHours (wsV RX1 97 RX1 yX1_havers wsX1_havers) := goodIn_app (goodIn_of _ (by decide +kernel)) ggX1_passHours_X1_havers
set_option maxRecDepth 20000 in
theorem ggX1_passHours_X1_passHour : GoodIn wsX1_passHours wsX1_passHour := goodIn_r _ [34, 7, 1, 8, 35, 28, 21, 22, 19, 23, 17, 18, 20, 10, 11, 12, 36, 37, 38, 5, 39, 40, 41, 42, 43, 44, 45, 46, 47, 48, 49, 50, 51, 52, 53] (by decide +kernel) (by decide +kernel)
set_option maxRecDepth 20000 in
theorem gX1_passHours_X1_passHour : GoodIn wsX1_passHours (wsV RX1 101 RX1 yX1_passHour wsX1_passHour) := goodIn_app (goodIn_of _ (by decide +kernel)) ggX1_passHours_X1_passHour
theorem dX1_passHours_0 : decode cX1_passHours 0 = .ok (.iconst 0, 1) := by decide +kernel
theorem dX1_passHours_1 : decode cX1_passHours 1 = .ok (.istore_n 2, 1) := by decide +kernel
theorem dX1_passHours_2 : decode cX1_passHours 2 = .ok (.iload_n 2, 1) := by decide +kernel
theorem dX1_passHours_3 : decode cX1_passHours 3 = .ok (.iload_n 1, 1) := by decide +kernel
theorem dX1_passHours_4 : decode cX1_passHours 4 = .ok (.if_icmp .ge 26, 3) := by decide +kernel
theorem dX1_passHours_7 : decode cX1_passHours 7 = .ok (.aload_n 0, 1) := by decide +kernel
theorem dX1_passHours_8 : decode cX1_passHours 8 = .ok (.getfield 38, 3) := by decide +kernel
theorem dX1_passHours_11 : decode cX1_passHours 11 = .ok (.bipush 16, 2) := by decide +kernel
theorem dX1_passHours_13 : decode cX1_passHours 13 = .ok (.if_icmp .ge 17, 3) := by decide +kernel
theorem dX1_passHours_16 : decode cX1_passHours 16 = .ok (.aload_n 0, 1) := by decide +kernel
theorem dX1_passHours_17 : decode cX1_passHours 17 = .ok (.aload_n 0, 1) := by decide +kernel
theorem dX1_passHours_18 : decode cX1_passHours 18 = .ok (.invokevirtual 97, 3) := by decide +kernel
theorem dX1_passHours_21 : decode cX1_passHours 21 = .ok (.invokevirtual 101, 3) := by decide +kernel
theorem dX1_passHours_24 : decode cX1_passHours 24 = .ok (.iinc 2 1, 3) := by decide +kernel
theorem dX1_passHours_27 : decode cX1_passHours 27 = .ok (.goto (-25), 3) := by decide +kernel
theorem dX1_passHours_30 : decode cX1_passHours 30 = .ok (.return_, 1) := by decide +kernel
set_option maxRecDepth 20000 in
theorem ggX1_passHour_X7_bit : GoodIn wsX1_passHour wsX7_bit := goodIn_r _ [15] (by decide +kernel) (by decide +kernel)
set_option maxRecDepth 20000 in
theorem gX1_passHour_X7_bit_n90 : GoodIn wsX1_passHour (wsX7_bit) := ggX1_passHour_X7_bit
set_option maxRecDepth 20000 in
theorem ggX1_passHour_X1_tally : GoodIn wsX1_passHour wsX1_tally := goodIn_r _ [20, 21, 22, 23, 24, 25, 26, 27, 28, 29, 30, 31, 32, 33, 34] (by decide +kernel) (by decide +kernel)
set_option maxRecDepth 20000 in
theorem gX1_passHour_X1_tally : GoodIn wsX1_passHour (wsV RX1 104 RX1 yX1_tally wsX1_tally) := goodIn_app (goodIn_of _ (by decide +kernel)) ggX1_passHour_X1_tally
theorem dX1_passHour_0 : decode cX1_passHour 0 = .ok (.aload_n 0, 1) := by decide +kernel
theorem dX1_passHour_1 : decode cX1_passHour 1 = .ok (.getfield 35, 3) := by decide +kernel
theorem dX1_passHour_4 : decode cX1_passHour 4 = .ok (.aload_n 0, 1) := by decide +kernel
theorem dX1_passHour_5 : decode cX1_passHour 5 = .ok (.getfield 38, 3) := by decide +kernel
theorem dX1_passHour_8 : decode cX1_passHour 8 = .ok (.invokestatic 90, 3) := by decide +kernel
theorem dX1_passHour_11 : decode cX1_passHour 11 = .ok (.iconst 1, 1) := by decide +kernel
theorem dX1_passHour_12 : decode cX1_passHour 12 = .ok (.if_icmp .ne 7, 3) := by decide +kernel
theorem dX1_passHour_15 : decode cX1_passHour 15 = .ok (.iconst 1, 1) := by decide +kernel
theorem dX1_passHour_16 : decode cX1_passHour 16 = .ok (.goto 4, 3) := by decide +kernel
theorem dX1_passHour_19 : decode cX1_passHour 19 = .ok (.iconst 0, 1) := by decide +kernel
theorem dX1_passHour_20 : decode cX1_passHour 20 = .ok (.istore_n 2, 1) := by decide +kernel
theorem dX1_passHour_21 : decode cX1_passHour 21 = .ok (.iconst 0, 1) := by decide +kernel
theorem dX1_passHour_22 : decode cX1_passHour 22 = .ok (.istore_n 3, 1) := by decide +kernel
theorem dX1_passHour_23 : decode cX1_passHour 23 = .ok (.iload_n 3, 1) := by decide +kernel
theorem dX1_passHour_24 : decode cX1_passHour 24 = .ok (.aload_n 0, 1) := by decide +kernel
theorem dX1_passHour_25 : decode cX1_passHour 25 = .ok (.getfield 30, 3) := by decide +kernel
theorem dX1_passHour_28 : decode cX1_passHour 28 = .ok (.if_icmp .ge 103, 3) := by decide +kernel
theorem dX1_passHour_31 : decode cX1_passHour 31 = .ok (.iload_n 1, 1) := by decide +kernel
theorem dX1_passHour_32 : decode cX1_passHour 32 = .ok (.iload_n 3, 1) := by decide +kernel
theorem dX1_passHour_33 : decode cX1_passHour 33 = .ok (.invokestatic 90, 3) := by decide +kernel
theorem dX1_passHour_36 : decode cX1_passHour 36 = .ok (.iconst 1, 1) := by decide +kernel
theorem dX1_passHour_37 : decode cX1_passHour 37 = .ok (.if_icmp .ne 7, 3) := by decide +kernel
theorem dX1_passHour_40 : decode cX1_passHour 40 = .ok (.iconst 1, 1) := by decide +kernel
theorem dX1_passHour_41 : decode cX1_passHour 41 = .ok (.goto 4, 3) := by decide +kernel
theorem dX1_passHour_44 : decode cX1_passHour 44 = .ok (.iconst 0, 1) := by decide +kernel
theorem dX1_passHour_45 : decode cX1_passHour 45 = .ok (.istore 4, 2) := by decide +kernel
theorem dX1_passHour_47 : decode cX1_passHour 47 = .ok (.aload_n 0, 1) := by decide +kernel
theorem dX1_passHour_48 : decode cX1_passHour 48 = .ok (.getfield 21, 3) := by decide +kernel
theorem dX1_passHour_51 : decode cX1_passHour 51 = .ok (.iload_n 3, 1) := by decide +kernel
theorem dX1_passHour_52 : decode cX1_passHour 52 = .ok (.iaload, 1) := by decide +kernel
theorem dX1_passHour_53 : decode cX1_passHour 53 = .ok (.aload_n 0, 1) := by decide +kernel
theorem dX1_passHour_54 : decode cX1_passHour 54 = .ok (.getfield 38, 3) := by decide +kernel
theorem dX1_passHour_57 : decode cX1_passHour 57 = .ok (.invokestatic 90, 3) := by decide +kernel
theorem dX1_passHour_60 : decode cX1_passHour 60 = .ok (.iconst 1, 1) := by decide +kernel
theorem dX1_passHour_61 : decode cX1_passHour 61 = .ok (.if_icmp .ne 21, 3) := by decide +kernel
theorem dX1_passHour_64 : decode cX1_passHour 64 = .ok (.aload_n 0, 1) := by decide +kernel
theorem dX1_passHour_65 : decode cX1_passHour 65 = .ok (.iload 4, 2) := by decide +kernel
theorem dX1_passHour_67 : decode cX1_passHour 67 = .ok (.ifCond .ne 7, 3) := by decide +kernel
theorem dX1_passHour_70 : decode cX1_passHour 70 = .ok (.iload_n 2, 1) := by decide +kernel
theorem dX1_passHour_71 : decode cX1_passHour 71 = .ok (.ifCond .ne 7, 3) := by decide +kernel
theorem dX1_passHour_74 : decode cX1_passHour 74 = .ok (.iconst 1, 1) := by decide +kernel
theorem dX1_passHour_75 : decode cX1_passHour 75 = .ok (.goto 4, 3) := by decide +kernel
theorem dX1_passHour_78 : decode cX1_passHour 78 = .ok (.iconst 0, 1) := by decide +kernel
theorem dX1_passHour_79 : decode cX1_passHour 79 = .ok (.invokevirtual 104, 3) := by decide +kernel
theorem dX1_passHour_82 : decode cX1_passHour 82 = .ok (.iload_n 2, 1) := by decide +kernel
theorem dX1_passHour_83 : decode cX1_passHour 83 = .ok (.ifCond .eq 42, 3) := by decide +kernel
theorem dX1_passHour_86 : decode cX1_passHour 86 = .ok (.aload_n 0, 1) := by decide +kernel
theorem dX1_passHour_87 : decode cX1_passHour 87 = .ok (.getfield 15, 3) := by decide +kernel
theorem dX1_passHour_90 : decode cX1_passHour 90 = .ok (.iload_n 3, 1) := by decide +kernel
theorem dX1_passHour_91 : decode cX1_passHour 91 = .ok (.iload 4, 2) := by decide +kernel
theorem dX1_passHour_93 : decode cX1_passHour 93 = .ok (.ifCond .eq 18, 3) := by decide +kernel
theorem dX1_passHour_96 : decode cX1_passHour 96 = .ok (.aload_n 0, 1) := by decide +kernel
theorem dX1_passHour_97 : decode cX1_passHour 97 = .ok (.getfield 15, 3) := by decide +kernel
theorem dX1_passHour_100 : decode cX1_passHour 100 = .ok (.iload_n 3, 1) := by decide +kernel
theorem dX1_passHour_101 : decode cX1_passHour 101 = .ok (.iaload, 1) := by decide +kernel
theorem dX1_passHour_102 : decode cX1_passHour 102 = .ok (.iconst 1, 1) := by decide +kernel
theorem dX1_passHour_103 : decode cX1_passHour 103 = .ok (.isub, 1) := by decide +kernel
theorem dX1_passHour_104 : decode cX1_passHour 104 = .ok (.iconst 0, 1) := by decide +kernel
theorem dX1_passHour_105 : decode cX1_passHour 105 = .ok (.invokestatic 84, 3) := by decide +kernel
theorem dX1_passHour_108 : decode cX1_passHour 108 = .ok (.goto 16, 3) := by decide +kernel
theorem dX1_passHour_111 : decode cX1_passHour 111 = .ok (.aload_n 0, 1) := by decide +kernel
theorem dX1_passHour_112 : decode cX1_passHour 112 = .ok (.getfield 15, 3) := by decide +kernel
theorem dX1_passHour_115 : decode cX1_passHour 115 = .ok (.iload_n 3, 1) := by decide +kernel
theorem dX1_passHour_116 : decode cX1_passHour 116 = .ok (.iaload, 1) := by decide +kernel
theorem dX1_passHour_117 : decode cX1_passHour 117 = .ok (.iconst 1, 1) := by decide +kernel
theorem dX1_passHour_118 : decode cX1_passHour 118 = .ok (.iadd, 1) := by decide +kernel
theorem dX1_passHour_119 : decode cX1_passHour 119 = .ok (.bipush 99, 2) := by decide +kernel
theorem dX1_passHour_121 : decode cX1_passHour 121 = .ok (.invokestatic 78, 3) := by decide +kernel
theorem dX1_passHour_124 : decode cX1_passHour 124 = .ok (.iastore, 1) := by decide +kernel
theorem dX1_passHour_125 : decode cX1_passHour 125 = .ok (.iinc 3 1, 3) := by decide +kernel
theorem dX1_passHour_128 : decode cX1_passHour 128 = .ok (.goto (-105), 3) := by decide +kernel
theorem dX1_passHour_131 : decode cX1_passHour 131 = .ok (.aload_n 0, 1) := by decide +kernel
theorem dX1_passHour_132 : decode cX1_passHour 132 = .ok (.dup, 1) := by decide +kernel
theorem dX1_passHour_133 : decode cX1_passHour 133 = .ok (.getfield 38, 3) := by decide +kernel
theorem dX1_passHour_136 : decode cX1_passHour 136 = .ok (.iconst 1, 1) := by decide +kernel
theorem dX1_passHour_137 : decode cX1_passHour 137 = .ok (.iadd, 1) := by decide +kernel
theorem dX1_passHour_138 : decode cX1_passHour 138 = .ok (.putfield 38, 3) := by decide +kernel
theorem dX1_passHour_141 : decode cX1_passHour 141 = .ok (.return_, 1) := by decide +kernel
theorem dX1_tally_0 : decode cX1_tally 0 = .ok (.iload_n 1, 1) := by decide +kernel
theorem dX1_tally_1 : decode cX1_tally 1 = .ok (.ifCond .eq 16, 3) := by decide +kernel
theorem dX1_tally_4 : decode cX1_tally 4 = .ok (.aload_n 0, 1) := by decide +kernel
theorem dX1_tally_5 : decode cX1_tally 5 = .ok (.dup, 1) := by decide +kernel
theorem dX1_tally_6 : decode cX1_tally 6 = .ok (.getfield 41, 3) := by decide +kernel
theorem dX1_tally_9 : decode cX1_tally 9 = .ok (.iconst 1, 1) := by decide +kernel
theorem dX1_tally_10 : decode cX1_tally 10 = .ok (.iadd, 1) := by decide +kernel
theorem dX1_tally_11 : decode cX1_tally 11 = .ok (.putfield 41, 3) := by decide +kernel
theorem dX1_tally_14 : decode cX1_tally 14 = .ok (.goto 13, 3) := by decide +kernel
theorem dX1_tally_17 : decode cX1_tally 17 = .ok (.aload_n 0, 1) := by decide +kernel
theorem dX1_tally_18 : decode cX1_tally 18 = .ok (.dup, 1) := by decide +kernel
theorem dX1_tally_19 : decode cX1_tally 19 = .ok (.getfield 44, 3) := by decide +kernel
theorem dX1_tally_22 : decode cX1_tally 22 = .ok (.iconst 1, 1) := by decide +kernel
theorem dX1_tally_23 : decode cX1_tally 23 = .ok (.iadd, 1) := by decide +kernel
theorem dX1_tally_24 : decode cX1_tally 24 = .ok (.putfield 44, 3) := by decide +kernel
theorem dX1_tally_27 : decode cX1_tally 27 = .ok (.return_, 1) := by decide +kernel
theorem dX1_draw_0 : decode cX1_draw 0 = .ok (.aload_n 0, 1) := by decide +kernel
theorem dX1_draw_1 : decode cX1_draw 1 = .ok (.aload_n 0, 1) := by decide +kernel
theorem dX1_draw_2 : decode cX1_draw 2 = .ok (.getfield 47, 3) := by decide +kernel
theorem dX1_draw_5 : decode cX1_draw 5 = .ok (.ldc 108, 2) := by decide +kernel
theorem dX1_draw_7 : decode cX1_draw 7 = .ok (.imul, 1) := by decide +kernel
theorem dX1_draw_8 : decode cX1_draw 8 = .ok (.sipush 12345, 3) := by decide +kernel
theorem dX1_draw_11 : decode cX1_draw 11 = .ok (.iadd, 1) := by decide +kernel
theorem dX1_draw_12 : decode cX1_draw 12 = .ok (.putfield 47, 3) := by decide +kernel
theorem dX1_draw_15 : decode cX1_draw 15 = .ok (.aload_n 0, 1) := by decide +kernel
theorem dX1_draw_16 : decode cX1_draw 16 = .ok (.getfield 47, 3) := by decide +kernel
theorem dX1_draw_19 : decode cX1_draw 19 = .ok (.bipush 8, 2) := by decide +kernel
theorem dX1_draw_21 : decode cX1_draw 21 = .ok (.iushr, 1) := by decide +kernel
theorem dX1_draw_22 : decode cX1_draw 22 = .ok (.ireturn, 1) := by decide +kernel
theorem dX1_countMated_0 : decode cX1_countMated 0 = .ok (.iconst 0, 1) := by decide +kernel
theorem dX1_countMated_1 : decode cX1_countMated 1 = .ok (.istore_n 1, 1) := by decide +kernel
theorem dX1_countMated_2 : decode cX1_countMated 2 = .ok (.iconst 0, 1) := by decide +kernel
theorem dX1_countMated_3 : decode cX1_countMated 3 = .ok (.istore_n 2, 1) := by decide +kernel
theorem dX1_countMated_4 : decode cX1_countMated 4 = .ok (.iload_n 2, 1) := by decide +kernel
theorem dX1_countMated_5 : decode cX1_countMated 5 = .ok (.aload_n 0, 1) := by decide +kernel
theorem dX1_countMated_6 : decode cX1_countMated 6 = .ok (.getfield 30, 3) := by decide +kernel
theorem dX1_countMated_9 : decode cX1_countMated 9 = .ok (.if_icmp .ge 27, 3) := by decide +kernel
theorem dX1_countMated_12 : decode cX1_countMated 12 = .ok (.iload_n 1, 1) := by decide +kernel
theorem dX1_countMated_13 : decode cX1_countMated 13 = .ok (.aload_n 0, 1) := by decide +kernel
theorem dX1_countMated_14 : decode cX1_countMated 14 = .ok (.getfield 24, 3) := by decide +kernel
theorem dX1_countMated_17 : decode cX1_countMated 17 = .ok (.iload_n 2, 1) := by decide +kernel
theorem dX1_countMated_18 : decode cX1_countMated 18 = .ok (.iaload, 1) := by decide +kernel
theorem dX1_countMated_19 : decode cX1_countMated 19 = .ok (.iconst (-1), 1) := by decide +kernel
theorem dX1_countMated_20 : decode cX1_countMated 20 = .ok (.if_icmp .ne 7, 3) := by decide +kernel
theorem dX1_countMated_23 : decode cX1_countMated 23 = .ok (.iconst 0, 1) := by decide +kernel
theorem dX1_countMated_24 : decode cX1_countMated 24 = .ok (.goto 4, 3) := by decide +kernel
theorem dX1_countMated_27 : decode cX1_countMated 27 = .ok (.iconst 1, 1) := by decide +kernel
theorem dX1_countMated_28 : decode cX1_countMated 28 = .ok (.iadd, 1) := by decide +kernel
theorem dX1_countMated_29 : decode cX1_countMated 29 = .ok (.istore_n 1, 1) := by decide +kernel
theorem dX1_countMated_30 : decode cX1_countMated 30 = .ok (.iinc 2 1, 3) := by decide +kernel
theorem dX1_countMated_33 : decode cX1_countMated 33 = .ok (.goto (-29), 3) := by decide +kernel
theorem dX1_countMated_36 : decode cX1_countMated 36 = .ok (.iload_n 1, 1) := by decide +kernel
theorem dX1_countMated_37 : decode cX1_countMated 37 = .ok (.ireturn, 1) := by decide +kernel
theorem dX1_sunOfAll_0 : decode cX1_sunOfAll 0 = .ok (.iconst 0, 1) := by decide +kernel
theorem dX1_sunOfAll_1 : decode cX1_sunOfAll 1 = .ok (.istore_n 1, 1) := by decide +kernel
theorem dX1_sunOfAll_2 : decode cX1_sunOfAll 2 = .ok (.iconst 0, 1) := by decide +kernel
theorem dX1_sunOfAll_3 : decode cX1_sunOfAll 3 = .ok (.istore_n 2, 1) := by decide +kernel
theorem dX1_sunOfAll_4 : decode cX1_sunOfAll 4 = .ok (.iload_n 2, 1) := by decide +kernel
theorem dX1_sunOfAll_5 : decode cX1_sunOfAll 5 = .ok (.aload_n 0, 1) := by decide +kernel
theorem dX1_sunOfAll_6 : decode cX1_sunOfAll 6 = .ok (.getfield 30, 3) := by decide +kernel
theorem dX1_sunOfAll_9 : decode cX1_sunOfAll 9 = .ok (.if_icmp .ge 18, 3) := by decide +kernel
theorem dX1_sunOfAll_12 : decode cX1_sunOfAll 12 = .ok (.iload_n 1, 1) := by decide +kernel
theorem dX1_sunOfAll_13 : decode cX1_sunOfAll 13 = .ok (.aload_n 0, 1) := by decide +kernel
theorem dX1_sunOfAll_14 : decode cX1_sunOfAll 14 = .ok (.getfield 15, 3) := by decide +kernel
theorem dX1_sunOfAll_17 : decode cX1_sunOfAll 17 = .ok (.iload_n 2, 1) := by decide +kernel
theorem dX1_sunOfAll_18 : decode cX1_sunOfAll 18 = .ok (.iaload, 1) := by decide +kernel
theorem dX1_sunOfAll_19 : decode cX1_sunOfAll 19 = .ok (.iadd, 1) := by decide +kernel
theorem dX1_sunOfAll_20 : decode cX1_sunOfAll 20 = .ok (.istore_n 1, 1) := by decide +kernel
theorem dX1_sunOfAll_21 : decode cX1_sunOfAll 21 = .ok (.iinc 2 1, 3) := by decide +kernel
theorem dX1_sunOfAll_24 : decode cX1_sunOfAll 24 = .ok (.goto (-20), 3) := by decide +kernel
theorem dX1_sunOfAll_27 : decode cX1_sunOfAll 27 = .ok (.iload_n 1, 1) := by decide +kernel
theorem dX1_sunOfAll_28 : decode cX1_sunOfAll 28 = .ok (.ireturn, 1) := by decide +kernel
theorem dX1_countHeld_0 : decode cX1_countHeld 0 = .ok (.iconst 0, 1) := by decide +kernel
theorem dX1_countHeld_1 : decode cX1_countHeld 1 = .ok (.istore_n 1, 1) := by decide +kernel
theorem dX1_countHeld_2 : decode cX1_countHeld 2 = .ok (.aload_n 0, 1) := by decide +kernel
theorem dX1_countHeld_3 : decode cX1_countHeld 3 = .ok (.getfield 27, 3) := by decide +kernel
theorem dX1_countHeld_6 : decode cX1_countHeld 6 = .ok (.astore_n 2, 1) := by decide +kernel
theorem dX1_countHeld_7 : decode cX1_countHeld 7 = .ok (.aload_n 2, 1) := by decide +kernel
theorem dX1_countHeld_8 : decode cX1_countHeld 8 = .ok (.arraylength, 1) := by decide +kernel
theorem dX1_countHeld_9 : decode cX1_countHeld 9 = .ok (.istore_n 3, 1) := by decide +kernel
theorem dX1_countHeld_10 : decode cX1_countHeld 10 = .ok (.iconst 0, 1) := by decide +kernel
theorem dX1_countHeld_11 : decode cX1_countHeld 11 = .ok (.istore 4, 2) := by decide +kernel
theorem dX1_countHeld_13 : decode cX1_countHeld 13 = .ok (.iload 4, 2) := by decide +kernel
theorem dX1_countHeld_15 : decode cX1_countHeld 15 = .ok (.iload_n 3, 1) := by decide +kernel
theorem dX1_countHeld_16 : decode cX1_countHeld 16 = .ok (.if_icmp .ge 29, 3) := by decide +kernel
theorem dX1_countHeld_19 : decode cX1_countHeld 19 = .ok (.aload_n 2, 1) := by decide +kernel
theorem dX1_countHeld_20 : decode cX1_countHeld 20 = .ok (.iload 4, 2) := by decide +kernel
theorem dX1_countHeld_22 : decode cX1_countHeld 22 = .ok (.iaload, 1) := by decide +kernel
theorem dX1_countHeld_23 : decode cX1_countHeld 23 = .ok (.istore 5, 2) := by decide +kernel
theorem dX1_countHeld_25 : decode cX1_countHeld 25 = .ok (.iload_n 1, 1) := by decide +kernel
theorem dX1_countHeld_26 : decode cX1_countHeld 26 = .ok (.iload 5, 2) := by decide +kernel
theorem dX1_countHeld_28 : decode cX1_countHeld 28 = .ok (.iconst (-1), 1) := by decide +kernel
theorem dX1_countHeld_29 : decode cX1_countHeld 29 = .ok (.if_icmp .ne 7, 3) := by decide +kernel
theorem dX1_countHeld_32 : decode cX1_countHeld 32 = .ok (.iconst 0, 1) := by decide +kernel
theorem dX1_countHeld_33 : decode cX1_countHeld 33 = .ok (.goto 4, 3) := by decide +kernel
theorem dX1_countHeld_36 : decode cX1_countHeld 36 = .ok (.iconst 1, 1) := by decide +kernel
theorem dX1_countHeld_37 : decode cX1_countHeld 37 = .ok (.iadd, 1) := by decide +kernel
theorem dX1_countHeld_38 : decode cX1_countHeld 38 = .ok (.istore_n 1, 1) := by decide +kernel
theorem dX1_countHeld_39 : decode cX1_countHeld 39 = .ok (.iinc 4 1, 3) := by decide +kernel
theorem dX1_countHeld_42 : decode cX1_countHeld 42 = .ok (.goto (-29), 3) := by decide +kernel
theorem dX1_countHeld_45 : decode cX1_countHeld 45 = .ok (.iload_n 1, 1) := by decide +kernel
theorem dX1_countHeld_46 : decode cX1_countHeld 46 = .ok (.ireturn, 1) := by decide +kernel
theorem dX2_init_0 : decode cX2_init 0 = .ok (.aload_n 0, 1) := by decide +kernel
theorem dX2_init_1 : decode cX2_init 1 = .ok (.invokespecial 3, 3) := by decide +kernel
theorem dX2_init_4 : decode cX2_init 4 = .ok (.aload_n 0, 1) := by decide +kernel
theorem dX2_init_5 : decode cX2_init 5 = .ok (.bipush 64, 2) := by decide +kernel
theorem dX2_init_7 : decode cX2_init 7 = .ok (.newarray .int, 2) := by decide +kernel
theorem dX2_init_9 : decode cX2_init 9 = .ok (.putfield 9, 3) := by decide +kernel
theorem dX2_init_12 : decode cX2_init 12 = .ok (.aload_n 0, 1) := by decide +kernel
theorem dX2_init_13 : decode cX2_init 13 = .ok (.sipush 256, 3) := by decide +kernel
theorem dX2_init_16 : decode cX2_init 16 = .ok (.newarray .int, 2) := by decide +kernel
theorem dX2_init_18 : decode cX2_init 18 = .ok (.putfield 15, 3) := by decide +kernel
theorem dX2_init_21 : decode cX2_init 21 = .ok (.aload_n 0, 1) := by decide +kernel
theorem dX2_init_22 : decode cX2_init 22 = .ok (.sipush 256, 3) := by decide +kernel
theorem dX2_init_25 : decode cX2_init 25 = .ok (.newarray .int, 2) := by decide +kernel
theorem dX2_init_27 : decode cX2_init 27 = .ok (.putfield 18, 3) := by decide +kernel
theorem dX2_init_30 : decode cX2_init 30 = .ok (.return_, 1) := by decide +kernel
set_option maxRecDepth 20000 in
theorem ggX2_value_X7_isWithin : GoodIn wsX2_value wsX7_isWithin := goodIn_r _ [4] (by decide +kernel) (by decide +kernel)
set_option maxRecDepth 20000 in
theorem gX2_value_X7_isWithin_n21 : GoodIn wsX2_value (wsX7_isWithin) := ggX2_value_X7_isWithin
theorem dX2_value_0 : decode cX2_value 0 = .ok (.iload_n 1, 1) := by decide +kernel
theorem dX2_value_1 : decode cX2_value 1 = .ok (.bipush 7, 2) := by decide +kernel
theorem dX2_value_3 : decode cX2_value 3 = .ok (.invokestatic 21, 3) := by decide +kernel
theorem dX2_value_6 : decode cX2_value 6 = .ok (.ifCond .eq 24, 3) := by decide +kernel
theorem dX2_value_9 : decode cX2_value 9 = .ok (.iload_n 2, 1) := by decide +kernel
theorem dX2_value_10 : decode cX2_value 10 = .ok (.bipush 7, 2) := by decide +kernel
theorem dX2_value_12 : decode cX2_value 12 = .ok (.invokestatic 21, 3) := by decide +kernel
theorem dX2_value_15 : decode cX2_value 15 = .ok (.ifCond .eq 15, 3) := by decide +kernel
theorem dX2_value_18 : decode cX2_value 18 = .ok (.aload_n 0, 1) := by decide +kernel
theorem dX2_value_19 : decode cX2_value 19 = .ok (.getfield 9, 3) := by decide +kernel
theorem dX2_value_22 : decode cX2_value 22 = .ok (.iload_n 1, 1) := by decide +kernel
theorem dX2_value_23 : decode cX2_value 23 = .ok (.bipush 8, 2) := by decide +kernel
theorem dX2_value_25 : decode cX2_value 25 = .ok (.imul, 1) := by decide +kernel
theorem dX2_value_26 : decode cX2_value 26 = .ok (.iload_n 2, 1) := by decide +kernel
theorem dX2_value_27 : decode cX2_value 27 = .ok (.iadd, 1) := by decide +kernel
theorem dX2_value_28 : decode cX2_value 28 = .ok (.iload_n 3, 1) := by decide +kernel
theorem dX2_value_29 : decode cX2_value 29 = .ok (.iastore, 1) := by decide +kernel
theorem dX2_value_30 : decode cX2_value 30 = .ok (.return_, 1) := by decide +kernel
theorem dX2_valueOf_0 : decode cX2_valueOf 0 = .ok (.aload_n 0, 1) := by decide +kernel
theorem dX2_valueOf_1 : decode cX2_valueOf 1 = .ok (.getfield 9, 3) := by decide +kernel
theorem dX2_valueOf_4 : decode cX2_valueOf 4 = .ok (.iload_n 1, 1) := by decide +kernel
theorem dX2_valueOf_5 : decode cX2_valueOf 5 = .ok (.iload_n 2, 1) := by decide +kernel
theorem dX2_valueOf_6 : decode cX2_valueOf 6 = .ok (.invokestatic 25, 3) := by decide +kernel
theorem dX2_valueOf_9 : decode cX2_valueOf 9 = .ok (.bipush 8, 2) := by decide +kernel
theorem dX2_valueOf_11 : decode cX2_valueOf 11 = .ok (.imul, 1) := by decide +kernel
theorem dX2_valueOf_12 : decode cX2_valueOf 12 = .ok (.iload_n 1, 1) := by decide +kernel
theorem dX2_valueOf_13 : decode cX2_valueOf 13 = .ok (.iload_n 2, 1) := by decide +kernel
theorem dX2_valueOf_14 : decode cX2_valueOf 14 = .ok (.invokestatic 31, 3) := by decide +kernel
theorem dX2_valueOf_17 : decode cX2_valueOf 17 = .ok (.iadd, 1) := by decide +kernel
theorem dX2_valueOf_18 : decode cX2_valueOf 18 = .ok (.iaload, 1) := by decide +kernel
theorem dX2_valueOf_19 : decode cX2_valueOf 19 = .ok (.ireturn, 1) := by decide +kernel
set_option maxRecDepth 20000 in
theorem ggX2_weigh_X2_weighSet : GoodIn wsX2_weigh wsX2_weighSet := goodIn_r _ [7, 1, 2, 8, 9, 6, 10, 11, 12, 13, 14, 15, 16, 17, 18, 19, 20, 21, 22, 23, 24, 25, 26, 27, 28, 29, 30, 31, 32, 33, 34, 35, 36, 37, 38, 39, 40, 41, 42] (by decide +kernel) (by decide +kernel)
set_option maxRecDepth 20000 in
theorem gX2_weigh_X2_weighSet : GoodIn wsX2_weigh (wsV RX2 34 RX2 yX2_weighSet wsX2_weighSet) := goodIn_app (goodIn_of _ (by decide +kernel)) ggX2_weigh_X2_weighSet
theorem dX2_weigh_0 : decode cX2_weigh 0 = .ok (.aload_n 0, 1) := by decide +kernel
theorem dX2_weigh_1 : decode cX2_weigh 1 = .ok (.getfield 15, 3) := by decide +kernel
theorem dX2_weigh_4 : decode cX2_weigh 4 = .ok (.iconst 0, 1) := by decide +kernel
theorem dX2_weigh_5 : decode cX2_weigh 5 = .ok (.iconst 0, 1) := by decide +kernel
theorem dX2_weigh_6 : decode cX2_weigh 6 = .ok (.iastore, 1) := by decide +kernel
theorem dX2_weigh_7 : decode cX2_weigh 7 = .ok (.aload_n 0, 1) := by decide +kernel
theorem dX2_weigh_8 : decode cX2_weigh 8 = .ok (.getfield 18, 3) := by decide +kernel
theorem dX2_weigh_11 : decode cX2_weigh 11 = .ok (.iconst 0, 1) := by decide +kernel
theorem dX2_weigh_12 : decode cX2_weigh 12 = .ok (.iconst 1, 1) := by decide +kernel
theorem dX2_weigh_13 : decode cX2_weigh 13 = .ok (.iastore, 1) := by decide +kernel
theorem dX2_weigh_14 : decode cX2_weigh 14 = .ok (.iconst 1, 1) := by decide +kernel
theorem dX2_weigh_15 : decode cX2_weigh 15 = .ok (.istore_n 2, 1) := by decide +kernel
theorem dX2_weigh_16 : decode cX2_weigh 16 = .ok (.iload_n 2, 1) := by decide +kernel
theorem dX2_weigh_17 : decode cX2_weigh 17 = .ok (.iload_n 1, 1) := by decide +kernel
theorem dX2_weigh_18 : decode cX2_weigh 18 = .ok (.if_icmp .gt 23, 3) := by decide +kernel
theorem dX2_weigh_21 : decode cX2_weigh 21 = .ok (.iload_n 2, 1) := by decide +kernel
theorem dX2_weigh_22 : decode cX2_weigh 22 = .ok (.aload_n 0, 1) := by decide +kernel
theorem dX2_weigh_23 : decode cX2_weigh 23 = .ok (.getfield 15, 3) := by decide +kernel
theorem dX2_weigh_26 : decode cX2_weigh 26 = .ok (.arraylength, 1) := by decide +kernel
theorem dX2_weigh_27 : decode cX2_weigh 27 = .ok (.if_icmp .ge 14, 3) := by decide +kernel
theorem dX2_weigh_30 : decode cX2_weigh 30 = .ok (.aload_n 0, 1) := by decide +kernel
theorem dX2_weigh_31 : decode cX2_weigh 31 = .ok (.iload_n 2, 1) := by decide +kernel
theorem dX2_weigh_32 : decode cX2_weigh 32 = .ok (.invokevirtual 34, 3) := by decide +kernel
theorem dX2_weigh_35 : decode cX2_weigh 35 = .ok (.iinc 2 1, 3) := by decide +kernel
theorem dX2_weigh_38 : decode cX2_weigh 38 = .ok (.goto (-22), 3) := by decide +kernel
theorem dX2_weigh_41 : decode cX2_weigh 41 = .ok (.return_, 1) := by decide +kernel
set_option maxRecDepth 20000 in
theorem ggX2_weighSet_X2_leastOf : GoodIn wsX2_weighSet wsX2_leastOf := goodIn_r _ [6, 7, 8, 9] (by decide +kernel) (by decide +kernel)
set_option maxRecDepth 20000 in
theorem gX2_weighSet_X2_leastOf : GoodIn wsX2_weighSet (va_wsS RX2 38 yX2_leastOf wsX2_leastOf) := goodIn_app (goodIn_of _ (by decide +kernel)) ggX2_weighSet_X2_leastOf
set_option maxRecDepth 20000 in
theorem ggX2_weighSet_X2_worthWith : GoodIn wsX2_weighSet wsX2_worthWith := goodIn_r _ [13, 1, 7, 8, 9, 14, 15, 16, 17, 18, 19, 20, 21, 22, 23, 5, 24, 25, 26, 27, 28, 29, 30, 31, 32, 33, 34, 35, 36, 37, 38] (by decide +kernel) (by decide +kernel)
set_option maxRecDepth 20000 in
theorem gX2_weighSet_X2_worthWith : GoodIn wsX2_weighSet (wsV RX2 42 RX2 yX2_worthWith wsX2_worthWith) := goodIn_app (goodIn_of _ (by decide +kernel)) ggX2_weighSet_X2_worthWith
set_option maxRecDepth 20000 in
theorem ggX2_weighSet_X2_without : GoodIn wsX2_weighSet wsX2_without := goodIn_r _ [35] (by decide +kernel) (by decide +kernel)
set_option maxRecDepth 20000 in
theorem gX2_weighSet_X2_without : GoodIn wsX2_weighSet (va_wsS RX2 46 yX2_without wsX2_without) := goodIn_app (goodIn_of _ (by decide +kernel)) ggX2_weighSet_X2_without
theorem dX2_weighSet_0 : decode cX2_weighSet 0 = .ok (.iload_n 1, 1) := by decide +kernel
theorem dX2_weighSet_1 : decode cX2_weighSet 1 = .ok (.invokestatic 38, 3) := by decide +kernel
theorem dX2_weighSet_4 : decode cX2_weighSet 4 = .ok (.istore_n 2, 1) := by decide +kernel
theorem dX2_weighSet_5 : decode cX2_weighSet 5 = .ok (.aload_n 0, 1) := by decide +kernel
theorem dX2_weighSet_6 : decode cX2_weighSet 6 = .ok (.getfield 15, 3) := by decide +kernel
theorem dX2_weighSet_9 : decode cX2_weighSet 9 = .ok (.iload_n 1, 1) := by decide +kernel
theorem dX2_weighSet_10 : decode cX2_weighSet 10 = .ok (.iconst (-1), 1) := by decide +kernel
theorem dX2_weighSet_11 : decode cX2_weighSet 11 = .ok (.iastore, 1) := by decide +kernel
theorem dX2_weighSet_12 : decode cX2_weighSet 12 = .ok (.aload_n 0, 1) := by decide +kernel
theorem dX2_weighSet_13 : decode cX2_weighSet 13 = .ok (.getfield 18, 3) := by decide +kernel
theorem dX2_weighSet_16 : decode cX2_weighSet 16 = .ok (.iload_n 1, 1) := by decide +kernel
theorem dX2_weighSet_17 : decode cX2_weighSet 17 = .ok (.iconst 0, 1) := by decide +kernel
theorem dX2_weighSet_18 : decode cX2_weighSet 18 = .ok (.iastore, 1) := by decide +kernel
theorem dX2_weighSet_19 : decode cX2_weighSet 19 = .ok (.iload_n 2, 1) := by decide +kernel
theorem dX2_weighSet_20 : decode cX2_weighSet 20 = .ok (.istore_n 3, 1) := by decide +kernel
theorem dX2_weighSet_21 : decode cX2_weighSet 21 = .ok (.iload_n 3, 1) := by decide +kernel
theorem dX2_weighSet_22 : decode cX2_weighSet 22 = .ok (.bipush 8, 2) := by decide +kernel
theorem dX2_weighSet_24 : decode cX2_weighSet 24 = .ok (.if_icmp .ge 81, 3) := by decide +kernel
theorem dX2_weighSet_27 : decode cX2_weighSet 27 = .ok (.aload_n 0, 1) := by decide +kernel
theorem dX2_weighSet_28 : decode cX2_weighSet 28 = .ok (.iload_n 1, 1) := by decide +kernel
theorem dX2_weighSet_29 : decode cX2_weighSet 29 = .ok (.iload_n 2, 1) := by decide +kernel
theorem dX2_weighSet_30 : decode cX2_weighSet 30 = .ok (.iload_n 3, 1) := by decide +kernel
theorem dX2_weighSet_31 : decode cX2_weighSet 31 = .ok (.invokevirtual 42, 3) := by decide +kernel
theorem dX2_weighSet_34 : decode cX2_weighSet 34 = .ok (.istore 4, 2) := by decide +kernel
theorem dX2_weighSet_36 : decode cX2_weighSet 36 = .ok (.iload 4, 2) := by decide +kernel
theorem dX2_weighSet_38 : decode cX2_weighSet 38 = .ok (.aload_n 0, 1) := by decide +kernel
theorem dX2_weighSet_39 : decode cX2_weighSet 39 = .ok (.getfield 15, 3) := by decide +kernel
theorem dX2_weighSet_42 : decode cX2_weighSet 42 = .ok (.iload_n 1, 1) := by decide +kernel
theorem dX2_weighSet_43 : decode cX2_weighSet 43 = .ok (.iaload, 1) := by decide +kernel
theorem dX2_weighSet_44 : decode cX2_weighSet 44 = .ok (.if_icmp .le 18, 3) := by decide +kernel
theorem dX2_weighSet_47 : decode cX2_weighSet 47 = .ok (.aload_n 0, 1) := by decide +kernel
theorem dX2_weighSet_48 : decode cX2_weighSet 48 = .ok (.getfield 15, 3) := by decide +kernel
theorem dX2_weighSet_51 : decode cX2_weighSet 51 = .ok (.iload_n 1, 1) := by decide +kernel
theorem dX2_weighSet_52 : decode cX2_weighSet 52 = .ok (.iload 4, 2) := by decide +kernel
theorem dX2_weighSet_54 : decode cX2_weighSet 54 = .ok (.iastore, 1) := by decide +kernel
theorem dX2_weighSet_55 : decode cX2_weighSet 55 = .ok (.aload_n 0, 1) := by decide +kernel
theorem dX2_weighSet_56 : decode cX2_weighSet 56 = .ok (.getfield 18, 3) := by decide +kernel
theorem dX2_weighSet_59 : decode cX2_weighSet 59 = .ok (.iload_n 1, 1) := by decide +kernel
theorem dX2_weighSet_60 : decode cX2_weighSet 60 = .ok (.iconst 0, 1) := by decide +kernel
theorem dX2_weighSet_61 : decode cX2_weighSet 61 = .ok (.iastore, 1) := by decide +kernel
theorem dX2_weighSet_62 : decode cX2_weighSet 62 = .ok (.iload 4, 2) := by decide +kernel
theorem dX2_weighSet_64 : decode cX2_weighSet 64 = .ok (.iconst (-1), 1) := by decide +kernel
theorem dX2_weighSet_65 : decode cX2_weighSet 65 = .ok (.if_icmp .eq 34, 3) := by decide +kernel
theorem dX2_weighSet_68 : decode cX2_weighSet 68 = .ok (.iload 4, 2) := by decide +kernel
theorem dX2_weighSet_70 : decode cX2_weighSet 70 = .ok (.aload_n 0, 1) := by decide +kernel
theorem dX2_weighSet_71 : decode cX2_weighSet 71 = .ok (.getfield 15, 3) := by decide +kernel
theorem dX2_weighSet_74 : decode cX2_weighSet 74 = .ok (.iload_n 1, 1) := by decide +kernel
theorem dX2_weighSet_75 : decode cX2_weighSet 75 = .ok (.iaload, 1) := by decide +kernel
theorem dX2_weighSet_76 : decode cX2_weighSet 76 = .ok (.if_icmp .ne 23, 3) := by decide +kernel
theorem dX2_weighSet_79 : decode cX2_weighSet 79 = .ok (.aload_n 0, 1) := by decide +kernel
theorem dX2_weighSet_80 : decode cX2_weighSet 80 = .ok (.getfield 18, 3) := by decide +kernel
theorem dX2_weighSet_83 : decode cX2_weighSet 83 = .ok (.iload_n 1, 1) := by decide +kernel
theorem dX2_weighSet_84 : decode cX2_weighSet 84 = .ok (.dup2, 1) := by decide +kernel
theorem dX2_weighSet_85 : decode cX2_weighSet 85 = .ok (.iaload, 1) := by decide +kernel
theorem dX2_weighSet_86 : decode cX2_weighSet 86 = .ok (.aload_n 0, 1) := by decide +kernel
theorem dX2_weighSet_87 : decode cX2_weighSet 87 = .ok (.getfield 18, 3) := by decide +kernel
theorem dX2_weighSet_90 : decode cX2_weighSet 90 = .ok (.iload_n 1, 1) := by decide +kernel
theorem dX2_weighSet_91 : decode cX2_weighSet 91 = .ok (.iload_n 2, 1) := by decide +kernel
theorem dX2_weighSet_92 : decode cX2_weighSet 92 = .ok (.iload_n 3, 1) := by decide +kernel
theorem dX2_weighSet_93 : decode cX2_weighSet 93 = .ok (.invokestatic 46, 3) := by decide +kernel
theorem dX2_weighSet_96 : decode cX2_weighSet 96 = .ok (.iaload, 1) := by decide +kernel
theorem dX2_weighSet_97 : decode cX2_weighSet 97 = .ok (.iadd, 1) := by decide +kernel
theorem dX2_weighSet_98 : decode cX2_weighSet 98 = .ok (.iastore, 1) := by decide +kernel
theorem dX2_weighSet_99 : decode cX2_weighSet 99 = .ok (.iinc 3 1, 3) := by decide +kernel
theorem dX2_weighSet_102 : decode cX2_weighSet 102 = .ok (.goto (-81), 3) := by decide +kernel
theorem dX2_weighSet_105 : decode cX2_weighSet 105 = .ok (.return_, 1) := by decide +kernel
set_option maxRecDepth 20000 in
theorem ggX2_worthWith_X7_bit : GoodIn wsX2_worthWith wsX7_bit := goodIn_r _ [4] (by decide +kernel) (by decide +kernel)
set_option maxRecDepth 20000 in
theorem gX2_worthWith_X7_bit_n49 : GoodIn wsX2_worthWith (wsX7_bit) := ggX2_worthWith_X7_bit
set_option maxRecDepth 20000 in
theorem ggX2_worthWith_J6_bitCount_0f7a4 : GoodIn wsX2_worthWith wsJ6_bitCount_0f7a4 := goodIn_r _ [8, 9, 10, 11] (by decide +kernel) (by decide +kernel)
set_option maxRecDepth 20000 in
theorem gX2_worthWith_J6_bitCount_0f7a4 : GoodIn wsX2_worthWith (va_wsS RX2 52 yJ6_bitCount_0f7a4 wsJ6_bitCount_0f7a4) := goodIn_app (goodIn_of _ (by decide +kernel)) ggX2_worthWith_J6_bitCount_0f7a4
set_option maxRecDepth 20000 in
theorem ggX2_worthWith_X2_valueOf : GoodIn wsX2_worthWith wsX2_valueOf := goodIn_r _ [16, 17, 18, 19, 20, 21, 22, 23, 24, 28, 29, 30] (by decide +kernel) (by decide +kernel)
set_option maxRecDepth 20000 in
theorem gX2_worthWith_X2_valueOf : GoodIn wsX2_worthWith (wsV RX2 57 RX2 yX2_valueOf wsX2_valueOf) := goodIn_app (goodIn_of _ (by decide +kernel)) ggX2_worthWith_X2_valueOf
set_option maxRecDepth 20000 in
theorem ggX2_worthWith_X2_without : GoodIn wsX2_worthWith wsX2_without := goodIn_r _ [27] (by decide +kernel) (by decide +kernel)
set_option maxRecDepth 20000 in
theorem gX2_worthWith_X2_without : GoodIn wsX2_worthWith (va_wsS RX2 46 yX2_without wsX2_without) := goodIn_app (goodIn_of _ (by decide +kernel)) ggX2_worthWith_X2_without
theorem dX2_worthWith_0 : decode cX2_worthWith 0 = .ok (.iload_n 1, 1) := by decide +kernel
theorem dX2_worthWith_1 : decode cX2_worthWith 1 = .ok (.iload_n 3, 1) := by decide +kernel
theorem dX2_worthWith_2 : decode cX2_worthWith 2 = .ok (.invokestatic 49, 3) := by decide +kernel
theorem dX2_worthWith_5 : decode cX2_worthWith 5 = .ok (.iconst 1, 1) := by decide +kernel
theorem dX2_worthWith_6 : decode cX2_worthWith 6 = .ok (.if_icmp .ne 22, 3) := by decide +kernel
theorem dX2_worthWith_9 : decode cX2_worthWith 9 = .ok (.iload_n 2, 1) := by decide +kernel
theorem dX2_worthWith_10 : decode cX2_worthWith 10 = .ok (.iload_n 3, 1) := by decide +kernel
theorem dX2_worthWith_11 : decode cX2_worthWith 11 = .ok (.if_icmp .ne 13, 3) := by decide +kernel
theorem dX2_worthWith_14 : decode cX2_worthWith 14 = .ok (.iload_n 1, 1) := by decide +kernel
theorem dX2_worthWith_15 : decode cX2_worthWith 15 = .ok (.invokestatic 52, 3) := by decide +kernel
theorem dX2_worthWith_18 : decode cX2_worthWith 18 = .ok (.iconst 2, 1) := by decide +kernel
theorem dX2_worthWith_19 : decode cX2_worthWith 19 = .ok (.irem, 1) := by decide +kernel
theorem dX2_worthWith_20 : decode cX2_worthWith 20 = .ok (.iconst 1, 1) := by decide +kernel
theorem dX2_worthWith_21 : decode cX2_worthWith 21 = .ok (.if_icmp .ne 7, 3) := by decide +kernel
theorem dX2_worthWith_24 : decode cX2_worthWith 24 = .ok (.iconst 1, 1) := by decide +kernel
theorem dX2_worthWith_25 : decode cX2_worthWith 25 = .ok (.goto 4, 3) := by decide +kernel
theorem dX2_worthWith_28 : decode cX2_worthWith 28 = .ok (.iconst 0, 1) := by decide +kernel
theorem dX2_worthWith_29 : decode cX2_worthWith 29 = .ok (.istore 4, 2) := by decide +kernel
theorem dX2_worthWith_31 : decode cX2_worthWith 31 = .ok (.iload 4, 2) := by decide +kernel
theorem dX2_worthWith_33 : decode cX2_worthWith 33 = .ok (.ifCond .eq 28, 3) := by decide +kernel
theorem dX2_worthWith_36 : decode cX2_worthWith 36 = .ok (.aload_n 0, 1) := by decide +kernel
theorem dX2_worthWith_37 : decode cX2_worthWith 37 = .ok (.iload_n 2, 1) := by decide +kernel
theorem dX2_worthWith_38 : decode cX2_worthWith 38 = .ok (.iload_n 3, 1) := by decide +kernel
theorem dX2_worthWith_39 : decode cX2_worthWith 39 = .ok (.invokevirtual 57, 3) := by decide +kernel
theorem dX2_worthWith_42 : decode cX2_worthWith 42 = .ok (.iconst (-1), 1) := by decide +kernel
theorem dX2_worthWith_43 : decode cX2_worthWith 43 = .ok (.if_icmp .eq 18, 3) := by decide +kernel
theorem dX2_worthWith_46 : decode cX2_worthWith 46 = .ok (.aload_n 0, 1) := by decide +kernel
theorem dX2_worthWith_47 : decode cX2_worthWith 47 = .ok (.getfield 15, 3) := by decide +kernel
theorem dX2_worthWith_50 : decode cX2_worthWith 50 = .ok (.iload_n 1, 1) := by decide +kernel
theorem dX2_worthWith_51 : decode cX2_worthWith 51 = .ok (.iload_n 2, 1) := by decide +kernel
theorem dX2_worthWith_52 : decode cX2_worthWith 52 = .ok (.iload_n 3, 1) := by decide +kernel
theorem dX2_worthWith_53 : decode cX2_worthWith 53 = .ok (.invokestatic 46, 3) := by decide +kernel
theorem dX2_worthWith_56 : decode cX2_worthWith 56 = .ok (.iaload, 1) := by decide +kernel
theorem dX2_worthWith_57 : decode cX2_worthWith 57 = .ok (.iconst (-1), 1) := by decide +kernel
theorem dX2_worthWith_58 : decode cX2_worthWith 58 = .ok (.if_icmp .ne 5, 3) := by decide +kernel
theorem dX2_worthWith_61 : decode cX2_worthWith 61 = .ok (.iconst (-1), 1) := by decide +kernel
theorem dX2_worthWith_62 : decode cX2_worthWith 62 = .ok (.ireturn, 1) := by decide +kernel
theorem dX2_worthWith_63 : decode cX2_worthWith 63 = .ok (.aload_n 0, 1) := by decide +kernel
theorem dX2_worthWith_64 : decode cX2_worthWith 64 = .ok (.iload_n 2, 1) := by decide +kernel
theorem dX2_worthWith_65 : decode cX2_worthWith 65 = .ok (.iload_n 3, 1) := by decide +kernel
theorem dX2_worthWith_66 : decode cX2_worthWith 66 = .ok (.invokevirtual 57, 3) := by decide +kernel
theorem dX2_worthWith_69 : decode cX2_worthWith 69 = .ok (.aload_n 0, 1) := by decide +kernel
theorem dX2_worthWith_70 : decode cX2_worthWith 70 = .ok (.getfield 15, 3) := by decide +kernel
theorem dX2_worthWith_73 : decode cX2_worthWith 73 = .ok (.iload_n 1, 1) := by decide +kernel
theorem dX2_worthWith_74 : decode cX2_worthWith 74 = .ok (.iload_n 2, 1) := by decide +kernel
theorem dX2_worthWith_75 : decode cX2_worthWith 75 = .ok (.iload_n 3, 1) := by decide +kernel
theorem dX2_worthWith_76 : decode cX2_worthWith 76 = .ok (.invokestatic 46, 3) := by decide +kernel
theorem dX2_worthWith_79 : decode cX2_worthWith 79 = .ok (.iaload, 1) := by decide +kernel
theorem dX2_worthWith_80 : decode cX2_worthWith 80 = .ok (.iadd, 1) := by decide +kernel
theorem dX2_worthWith_81 : decode cX2_worthWith 81 = .ok (.ireturn, 1) := by decide +kernel
theorem dX2_without_0 : decode cX2_without 0 = .ok (.iload_n 0, 1) := by decide +kernel
theorem dX2_without_1 : decode cX2_without 1 = .ok (.iconst 1, 1) := by decide +kernel
theorem dX2_without_2 : decode cX2_without 2 = .ok (.iload_n 1, 1) := by decide +kernel
theorem dX2_without_3 : decode cX2_without 3 = .ok (.ishl, 1) := by decide +kernel
theorem dX2_without_4 : decode cX2_without 4 = .ok (.iconst (-1), 1) := by decide +kernel
theorem dX2_without_5 : decode cX2_without 5 = .ok (.ixor, 1) := by decide +kernel
theorem dX2_without_6 : decode cX2_without 6 = .ok (.iand, 1) := by decide +kernel
theorem dX2_without_7 : decode cX2_without 7 = .ok (.iconst 1, 1) := by decide +kernel
theorem dX2_without_8 : decode cX2_without 8 = .ok (.iload_n 2, 1) := by decide +kernel
theorem dX2_without_9 : decode cX2_without 9 = .ok (.ishl, 1) := by decide +kernel
theorem dX2_without_10 : decode cX2_without 10 = .ok (.iconst (-1), 1) := by decide +kernel
theorem dX2_without_11 : decode cX2_without 11 = .ok (.ixor, 1) := by decide +kernel
theorem dX2_without_12 : decode cX2_without 12 = .ok (.iand, 1) := by decide +kernel
theorem dX2_without_13 : decode cX2_without 13 = .ok (.ireturn, 1) := by decide +kernel
set_option maxRecDepth 20000 in
theorem ggX2_leastOf_X7_bit : GoodIn wsX2_leastOf wsX7_bit := goodIn_r _ [3] (by decide +kernel) (by decide +kernel)
set_option maxRecDepth 20000 in
theorem gX2_leastOf_X7_bit_n49 : GoodIn wsX2_leastOf (wsX7_bit) := ggX2_leastOf_X7_bit
theorem dX2_leastOf_0 : decode cX2_leastOf 0 = .ok (.iconst 0, 1) := by decide +kernel
theorem dX2_leastOf_1 : decode cX2_leastOf 1 = .ok (.istore_n 1, 1) := by decide +kernel
theorem dX2_leastOf_2 : decode cX2_leastOf 2 = .ok (.iload_n 1, 1) := by decide +kernel
theorem dX2_leastOf_3 : decode cX2_leastOf 3 = .ok (.bipush 7, 2) := by decide +kernel
theorem dX2_leastOf_5 : decode cX2_leastOf 5 = .ok (.if_icmp .ge 20, 3) := by decide +kernel
theorem dX2_leastOf_8 : decode cX2_leastOf 8 = .ok (.iload_n 0, 1) := by decide +kernel
theorem dX2_leastOf_9 : decode cX2_leastOf 9 = .ok (.iload_n 1, 1) := by decide +kernel
theorem dX2_leastOf_10 : decode cX2_leastOf 10 = .ok (.invokestatic 49, 3) := by decide +kernel
theorem dX2_leastOf_13 : decode cX2_leastOf 13 = .ok (.iconst 1, 1) := by decide +kernel
theorem dX2_leastOf_14 : decode cX2_leastOf 14 = .ok (.if_icmp .ne 5, 3) := by decide +kernel
theorem dX2_leastOf_17 : decode cX2_leastOf 17 = .ok (.iload_n 1, 1) := by decide +kernel
theorem dX2_leastOf_18 : decode cX2_leastOf 18 = .ok (.ireturn, 1) := by decide +kernel
theorem dX2_leastOf_19 : decode cX2_leastOf 19 = .ok (.iinc 1 1, 3) := by decide +kernel
theorem dX2_leastOf_22 : decode cX2_leastOf 22 = .ok (.goto (-20), 3) := by decide +kernel
theorem dX2_leastOf_25 : decode cX2_leastOf 25 = .ok (.bipush 7, 2) := by decide +kernel
theorem dX2_leastOf_27 : decode cX2_leastOf 27 = .ok (.ireturn, 1) := by decide +kernel
set_option maxRecDepth 20000 in
theorem ggX2_bestOf_X7_isWithin : GoodIn wsX2_bestOf wsX7_isWithin := goodIn_r _ [4] (by decide +kernel) (by decide +kernel)
set_option maxRecDepth 20000 in
theorem gX2_bestOf_X7_isWithin_n21 : GoodIn wsX2_bestOf (wsX7_isWithin) := ggX2_bestOf_X7_isWithin
theorem dX2_bestOf_0 : decode cX2_bestOf 0 = .ok (.iload_n 1, 1) := by decide +kernel
theorem dX2_bestOf_1 : decode cX2_bestOf 1 = .ok (.aload_n 0, 1) := by decide +kernel
theorem dX2_bestOf_2 : decode cX2_bestOf 2 = .ok (.getfield 15, 3) := by decide +kernel
theorem dX2_bestOf_5 : decode cX2_bestOf 5 = .ok (.arraylength, 1) := by decide +kernel
theorem dX2_bestOf_6 : decode cX2_bestOf 6 = .ok (.iconst 1, 1) := by decide +kernel
theorem dX2_bestOf_7 : decode cX2_bestOf 7 = .ok (.isub, 1) := by decide +kernel
theorem dX2_bestOf_8 : decode cX2_bestOf 8 = .ok (.invokestatic 21, 3) := by decide +kernel
theorem dX2_bestOf_11 : decode cX2_bestOf 11 = .ok (.ifCond .eq 12, 3) := by decide +kernel
theorem dX2_bestOf_14 : decode cX2_bestOf 14 = .ok (.aload_n 0, 1) := by decide +kernel
theorem dX2_bestOf_15 : decode cX2_bestOf 15 = .ok (.getfield 15, 3) := by decide +kernel
theorem dX2_bestOf_18 : decode cX2_bestOf 18 = .ok (.iload_n 1, 1) := by decide +kernel
theorem dX2_bestOf_19 : decode cX2_bestOf 19 = .ok (.iaload, 1) := by decide +kernel
theorem dX2_bestOf_20 : decode cX2_bestOf 20 = .ok (.goto 4, 3) := by decide +kernel
theorem dX2_bestOf_23 : decode cX2_bestOf 23 = .ok (.iconst 0, 1) := by decide +kernel
theorem dX2_bestOf_24 : decode cX2_bestOf 24 = .ok (.ireturn, 1) := by decide +kernel
set_option maxRecDepth 20000 in
theorem ggX2_waysOf_X7_isWithin : GoodIn wsX2_waysOf wsX7_isWithin := goodIn_r _ [4] (by decide +kernel) (by decide +kernel)
set_option maxRecDepth 20000 in
theorem gX2_waysOf_X7_isWithin_n21 : GoodIn wsX2_waysOf (wsX7_isWithin) := ggX2_waysOf_X7_isWithin
theorem dX2_waysOf_0 : decode cX2_waysOf 0 = .ok (.iload_n 1, 1) := by decide +kernel
theorem dX2_waysOf_1 : decode cX2_waysOf 1 = .ok (.aload_n 0, 1) := by decide +kernel
theorem dX2_waysOf_2 : decode cX2_waysOf 2 = .ok (.getfield 18, 3) := by decide +kernel
theorem dX2_waysOf_5 : decode cX2_waysOf 5 = .ok (.arraylength, 1) := by decide +kernel
theorem dX2_waysOf_6 : decode cX2_waysOf 6 = .ok (.iconst 1, 1) := by decide +kernel
theorem dX2_waysOf_7 : decode cX2_waysOf 7 = .ok (.isub, 1) := by decide +kernel
theorem dX2_waysOf_8 : decode cX2_waysOf 8 = .ok (.invokestatic 21, 3) := by decide +kernel
theorem dX2_waysOf_11 : decode cX2_waysOf 11 = .ok (.ifCond .eq 12, 3) := by decide +kernel
theorem dX2_waysOf_14 : decode cX2_waysOf 14 = .ok (.aload_n 0, 1) := by decide +kernel
theorem dX2_waysOf_15 : decode cX2_waysOf 15 = .ok (.getfield 18, 3) := by decide +kernel
theorem dX2_waysOf_18 : decode cX2_waysOf 18 = .ok (.iload_n 1, 1) := by decide +kernel
theorem dX2_waysOf_19 : decode cX2_waysOf 19 = .ok (.iaload, 1) := by decide +kernel
theorem dX2_waysOf_20 : decode cX2_waysOf 20 = .ok (.goto 4, 3) := by decide +kernel
theorem dX2_waysOf_23 : decode cX2_waysOf 23 = .ok (.iconst 0, 1) := by decide +kernel
theorem dX2_waysOf_24 : decode cX2_waysOf 24 = .ok (.ireturn, 1) := by decide +kernel
set_option maxRecDepth 20000 in
theorem ggX2_firstMateOf_X2_leastOf : GoodIn wsX2_firstMateOf wsX2_leastOf := goodIn_r _ [5, 6, 7, 8] (by decide +kernel) (by decide +kernel)
set_option maxRecDepth 20000 in
theorem gX2_firstMateOf_X2_leastOf : GoodIn wsX2_firstMateOf (va_wsS RX2 38 yX2_leastOf wsX2_leastOf) := goodIn_app (goodIn_of _ (by decide +kernel)) ggX2_firstMateOf_X2_leastOf
set_option maxRecDepth 20000 in
theorem ggX2_firstMateOf_X2_firstBest : GoodIn wsX2_firstMateOf wsX2_firstBest := goodIn_r _ [12, 1, 13, 14, 15, 4, 16, 6, 7, 8, 17, 18, 19, 20, 21, 22, 23, 24, 25, 26, 27, 28, 29, 30, 31, 32, 33, 34, 35, 36, 37, 38, 39, 40, 41] (by decide +kernel) (by decide +kernel)
set_option maxRecDepth 20000 in
theorem gX2_firstMateOf_X2_firstBest : GoodIn wsX2_firstMateOf (wsV RX2 60 RX2 yX2_firstBest wsX2_firstBest) := goodIn_app (goodIn_of _ (by decide +kernel)) ggX2_firstMateOf_X2_firstBest
set_option maxRecDepth 20000 in
theorem ggX2_firstMateOf_X2_without : GoodIn wsX2_firstMateOf wsX2_without := goodIn_r _ [38] (by decide +kernel) (by decide +kernel)
set_option maxRecDepth 20000 in
theorem gX2_firstMateOf_X2_without : GoodIn wsX2_firstMateOf (va_wsS RX2 46 yX2_without wsX2_without) := goodIn_app (goodIn_of _ (by decide +kernel)) ggX2_firstMateOf_X2_without
theorem dX2_firstMateOf_0 : decode cX2_firstMateOf 0 = .ok (.iload_n 2, 1) := by decide +kernel
theorem dX2_firstMateOf_1 : decode cX2_firstMateOf 1 = .ok (.aload_n 0, 1) := by decide +kernel
theorem dX2_firstMateOf_2 : decode cX2_firstMateOf 2 = .ok (.getfield 15, 3) := by decide +kernel
theorem dX2_firstMateOf_5 : decode cX2_firstMateOf 5 = .ok (.arraylength, 1) := by decide +kernel
theorem dX2_firstMateOf_6 : decode cX2_firstMateOf 6 = .ok (.iconst 1, 1) := by decide +kernel
theorem dX2_firstMateOf_7 : decode cX2_firstMateOf 7 = .ok (.isub, 1) := by decide +kernel
theorem dX2_firstMateOf_8 : decode cX2_firstMateOf 8 = .ok (.iand, 1) := by decide +kernel
theorem dX2_firstMateOf_9 : decode cX2_firstMateOf 9 = .ok (.istore_n 3, 1) := by decide +kernel
theorem dX2_firstMateOf_10 : decode cX2_firstMateOf 10 = .ok (.iconst 0, 1) := by decide +kernel
theorem dX2_firstMateOf_11 : decode cX2_firstMateOf 11 = .ok (.istore 4, 2) := by decide +kernel
theorem dX2_firstMateOf_13 : decode cX2_firstMateOf 13 = .ok (.iload 4, 2) := by decide +kernel
theorem dX2_firstMateOf_15 : decode cX2_firstMateOf 15 = .ok (.bipush 8, 2) := by decide +kernel
theorem dX2_firstMateOf_17 : decode cX2_firstMateOf 17 = .ok (.if_icmp .ge 66, 3) := by decide +kernel
theorem dX2_firstMateOf_20 : decode cX2_firstMateOf 20 = .ok (.iload_n 3, 1) := by decide +kernel
theorem dX2_firstMateOf_21 : decode cX2_firstMateOf 21 = .ok (.ifCond .eq 62, 3) := by decide +kernel
theorem dX2_firstMateOf_24 : decode cX2_firstMateOf 24 = .ok (.iload_n 3, 1) := by decide +kernel
theorem dX2_firstMateOf_25 : decode cX2_firstMateOf 25 = .ok (.invokestatic 38, 3) := by decide +kernel
theorem dX2_firstMateOf_28 : decode cX2_firstMateOf 28 = .ok (.istore 5, 2) := by decide +kernel
theorem dX2_firstMateOf_30 : decode cX2_firstMateOf 30 = .ok (.aload_n 0, 1) := by decide +kernel
theorem dX2_firstMateOf_31 : decode cX2_firstMateOf 31 = .ok (.iload_n 3, 1) := by decide +kernel
theorem dX2_firstMateOf_32 : decode cX2_firstMateOf 32 = .ok (.iload 5, 2) := by decide +kernel
theorem dX2_firstMateOf_34 : decode cX2_firstMateOf 34 = .ok (.invokevirtual 60, 3) := by decide +kernel
theorem dX2_firstMateOf_37 : decode cX2_firstMateOf 37 = .ok (.istore 6, 2) := by decide +kernel
theorem dX2_firstMateOf_39 : decode cX2_firstMateOf 39 = .ok (.iload 5, 2) := by decide +kernel
theorem dX2_firstMateOf_41 : decode cX2_firstMateOf 41 = .ok (.iload_n 1, 1) := by decide +kernel
theorem dX2_firstMateOf_42 : decode cX2_firstMateOf 42 = .ok (.if_icmp .ne 17, 3) := by decide +kernel
theorem dX2_firstMateOf_45 : decode cX2_firstMateOf 45 = .ok (.iload 6, 2) := by decide +kernel
theorem dX2_firstMateOf_47 : decode cX2_firstMateOf 47 = .ok (.iload 5, 2) := by decide +kernel
theorem dX2_firstMateOf_49 : decode cX2_firstMateOf 49 = .ok (.if_icmp .ne 7, 3) := by decide +kernel
theorem dX2_firstMateOf_52 : decode cX2_firstMateOf 52 = .ok (.iconst (-1), 1) := by decide +kernel
theorem dX2_firstMateOf_53 : decode cX2_firstMateOf 53 = .ok (.goto 5, 3) := by decide +kernel
theorem dX2_firstMateOf_56 : decode cX2_firstMateOf 56 = .ok (.iload 6, 2) := by decide +kernel
theorem dX2_firstMateOf_58 : decode cX2_firstMateOf 58 = .ok (.ireturn, 1) := by decide +kernel
theorem dX2_firstMateOf_59 : decode cX2_firstMateOf 59 = .ok (.iload 6, 2) := by decide +kernel
theorem dX2_firstMateOf_61 : decode cX2_firstMateOf 61 = .ok (.iload_n 1, 1) := by decide +kernel
theorem dX2_firstMateOf_62 : decode cX2_firstMateOf 62 = .ok (.if_icmp .ne 6, 3) := by decide +kernel
theorem dX2_firstMateOf_65 : decode cX2_firstMateOf 65 = .ok (.iload 5, 2) := by decide +kernel
theorem dX2_firstMateOf_67 : decode cX2_firstMateOf 67 = .ok (.ireturn, 1) := by decide +kernel
theorem dX2_firstMateOf_68 : decode cX2_firstMateOf 68 = .ok (.iload_n 3, 1) := by decide +kernel
theorem dX2_firstMateOf_69 : decode cX2_firstMateOf 69 = .ok (.iload 5, 2) := by decide +kernel
theorem dX2_firstMateOf_71 : decode cX2_firstMateOf 71 = .ok (.iload 6, 2) := by decide +kernel
theorem dX2_firstMateOf_73 : decode cX2_firstMateOf 73 = .ok (.invokestatic 46, 3) := by decide +kernel
theorem dX2_firstMateOf_76 : decode cX2_firstMateOf 76 = .ok (.istore_n 3, 1) := by decide +kernel
theorem dX2_firstMateOf_77 : decode cX2_firstMateOf 77 = .ok (.iinc 4 1, 3) := by decide +kernel
theorem dX2_firstMateOf_80 : decode cX2_firstMateOf 80 = .ok (.goto (-67), 3) := by decide +kernel
theorem dX2_firstMateOf_83 : decode cX2_firstMateOf 83 = .ok (.iconst (-1), 1) := by decide +kernel
theorem dX2_firstMateOf_84 : decode cX2_firstMateOf 84 = .ok (.ireturn, 1) := by decide +kernel
set_option maxRecDepth 20000 in
theorem ggX2_firstBest_X2_worthWith : GoodIn wsX2_firstBest wsX2_worthWith := goodIn_r _ [6, 1, 7, 8, 9, 10, 11, 12, 13, 14, 15, 16, 17, 18, 19, 5, 20, 21, 22, 23, 24, 25, 26, 27, 28, 29, 30, 31, 32, 33, 34] (by decide +kernel) (by decide +kernel)
set_option maxRecDepth 20000 in
theorem gX2_firstBest_X2_worthWith : GoodIn wsX2_firstBest (wsV RX2 42 RX2 yX2_worthWith wsX2_worthWith) := goodIn_app (goodIn_of _ (by decide +kernel)) ggX2_firstBest_X2_worthWith
theorem dX2_firstBest_0 : decode cX2_firstBest 0 = .ok (.iload_n 2, 1) := by decide +kernel
theorem dX2_firstBest_1 : decode cX2_firstBest 1 = .ok (.istore_n 3, 1) := by decide +kernel
theorem dX2_firstBest_2 : decode cX2_firstBest 2 = .ok (.iload_n 3, 1) := by decide +kernel
theorem dX2_firstBest_3 : decode cX2_firstBest 3 = .ok (.bipush 8, 2) := by decide +kernel
theorem dX2_firstBest_5 : decode cX2_firstBest 5 = .ok (.if_icmp .ge 27, 3) := by decide +kernel
theorem dX2_firstBest_8 : decode cX2_firstBest 8 = .ok (.aload_n 0, 1) := by decide +kernel
theorem dX2_firstBest_9 : decode cX2_firstBest 9 = .ok (.iload_n 1, 1) := by decide +kernel
theorem dX2_firstBest_10 : decode cX2_firstBest 10 = .ok (.iload_n 2, 1) := by decide +kernel
theorem dX2_firstBest_11 : decode cX2_firstBest 11 = .ok (.iload_n 3, 1) := by decide +kernel
theorem dX2_firstBest_12 : decode cX2_firstBest 12 = .ok (.invokevirtual 42, 3) := by decide +kernel
theorem dX2_firstBest_15 : decode cX2_firstBest 15 = .ok (.aload_n 0, 1) := by decide +kernel
theorem dX2_firstBest_16 : decode cX2_firstBest 16 = .ok (.getfield 15, 3) := by decide +kernel
theorem dX2_firstBest_19 : decode cX2_firstBest 19 = .ok (.iload_n 1, 1) := by decide +kernel
theorem dX2_firstBest_20 : decode cX2_firstBest 20 = .ok (.iaload, 1) := by decide +kernel
theorem dX2_firstBest_21 : decode cX2_firstBest 21 = .ok (.if_icmp .ne 5, 3) := by decide +kernel
theorem dX2_firstBest_24 : decode cX2_firstBest 24 = .ok (.iload_n 3, 1) := by decide +kernel
theorem dX2_firstBest_25 : decode cX2_firstBest 25 = .ok (.ireturn, 1) := by decide +kernel
theorem dX2_firstBest_26 : decode cX2_firstBest 26 = .ok (.iinc 3 1, 3) := by decide +kernel
theorem dX2_firstBest_29 : decode cX2_firstBest 29 = .ok (.goto (-27), 3) := by decide +kernel
theorem dX2_firstBest_32 : decode cX2_firstBest 32 = .ok (.iload_n 2, 1) := by decide +kernel
theorem dX2_firstBest_33 : decode cX2_firstBest 33 = .ok (.ireturn, 1) := by decide +kernel
set_option maxRecDepth 20000 in
theorem ggX2_matesOf_X7_isWithin : GoodIn wsX2_matesOf wsX7_isWithin := goodIn_r _ [4] (by decide +kernel) (by decide +kernel)
set_option maxRecDepth 20000 in
theorem gX2_matesOf_X7_isWithin_n21 : GoodIn wsX2_matesOf (wsX7_isWithin) := ggX2_matesOf_X7_isWithin
set_option maxRecDepth 20000 in
theorem ggX2_matesOf_X2_worthWith : GoodIn wsX2_matesOf wsX2_worthWith := goodIn_r _ [9, 1, 10, 3, 11, 12, 13, 14, 15, 16, 17, 18, 19, 20, 21, 8, 22, 23, 24, 25, 26, 27, 28, 29, 30, 31, 32, 33, 34, 35, 36] (by decide +kernel) (by decide +kernel)
set_option maxRecDepth 20000 in
theorem gX2_matesOf_X2_worthWith : GoodIn wsX2_matesOf (wsV RX2 42 RX2 yX2_worthWith wsX2_worthWith) := goodIn_app (goodIn_of _ (by decide +kernel)) ggX2_matesOf_X2_worthWith
theorem dX2_matesOf_0 : decode cX2_matesOf 0 = .ok (.iconst 0, 1) := by decide +kernel
theorem dX2_matesOf_1 : decode cX2_matesOf 1 = .ok (.istore_n 3, 1) := by decide +kernel
theorem dX2_matesOf_2 : decode cX2_matesOf 2 = .ok (.iload_n 2, 1) := by decide +kernel
theorem dX2_matesOf_3 : decode cX2_matesOf 3 = .ok (.aload_n 0, 1) := by decide +kernel
theorem dX2_matesOf_4 : decode cX2_matesOf 4 = .ok (.getfield 15, 3) := by decide +kernel
theorem dX2_matesOf_7 : decode cX2_matesOf 7 = .ok (.arraylength, 1) := by decide +kernel
theorem dX2_matesOf_8 : decode cX2_matesOf 8 = .ok (.iconst 1, 1) := by decide +kernel
theorem dX2_matesOf_9 : decode cX2_matesOf 9 = .ok (.isub, 1) := by decide +kernel
theorem dX2_matesOf_10 : decode cX2_matesOf 10 = .ok (.iand, 1) := by decide +kernel
theorem dX2_matesOf_11 : decode cX2_matesOf 11 = .ok (.istore 4, 2) := by decide +kernel
theorem dX2_matesOf_13 : decode cX2_matesOf 13 = .ok (.iconst 0, 1) := by decide +kernel
theorem dX2_matesOf_14 : decode cX2_matesOf 14 = .ok (.istore 5, 2) := by decide +kernel
theorem dX2_matesOf_16 : decode cX2_matesOf 16 = .ok (.iload 5, 2) := by decide +kernel
theorem dX2_matesOf_18 : decode cX2_matesOf 18 = .ok (.bipush 8, 2) := by decide +kernel
theorem dX2_matesOf_20 : decode cX2_matesOf 20 = .ok (.if_icmp .ge 38, 3) := by decide +kernel
theorem dX2_matesOf_23 : decode cX2_matesOf 23 = .ok (.iload_n 1, 1) := by decide +kernel
theorem dX2_matesOf_24 : decode cX2_matesOf 24 = .ok (.bipush 7, 2) := by decide +kernel
theorem dX2_matesOf_26 : decode cX2_matesOf 26 = .ok (.invokestatic 21, 3) := by decide +kernel
theorem dX2_matesOf_29 : decode cX2_matesOf 29 = .ok (.ifCond .eq 23, 3) := by decide +kernel
theorem dX2_matesOf_32 : decode cX2_matesOf 32 = .ok (.aload_n 0, 1) := by decide +kernel
theorem dX2_matesOf_33 : decode cX2_matesOf 33 = .ok (.iload 4, 2) := by decide +kernel
theorem dX2_matesOf_35 : decode cX2_matesOf 35 = .ok (.iload_n 1, 1) := by decide +kernel
theorem dX2_matesOf_36 : decode cX2_matesOf 36 = .ok (.iload 5, 2) := by decide +kernel
theorem dX2_matesOf_38 : decode cX2_matesOf 38 = .ok (.invokevirtual 42, 3) := by decide +kernel
theorem dX2_matesOf_41 : decode cX2_matesOf 41 = .ok (.iconst (-1), 1) := by decide +kernel
theorem dX2_matesOf_42 : decode cX2_matesOf 42 = .ok (.if_icmp .eq 10, 3) := by decide +kernel
theorem dX2_matesOf_45 : decode cX2_matesOf 45 = .ok (.iload_n 3, 1) := by decide +kernel
theorem dX2_matesOf_46 : decode cX2_matesOf 46 = .ok (.iconst 1, 1) := by decide +kernel
theorem dX2_matesOf_47 : decode cX2_matesOf 47 = .ok (.iload 5, 2) := by decide +kernel
theorem dX2_matesOf_49 : decode cX2_matesOf 49 = .ok (.ishl, 1) := by decide +kernel
theorem dX2_matesOf_50 : decode cX2_matesOf 50 = .ok (.ior, 1) := by decide +kernel
theorem dX2_matesOf_51 : decode cX2_matesOf 51 = .ok (.istore_n 3, 1) := by decide +kernel
theorem dX2_matesOf_52 : decode cX2_matesOf 52 = .ok (.iinc 5 1, 3) := by decide +kernel
theorem dX2_matesOf_55 : decode cX2_matesOf 55 = .ok (.goto (-39), 3) := by decide +kernel
theorem dX2_matesOf_58 : decode cX2_matesOf 58 = .ok (.iload_n 3, 1) := by decide +kernel
theorem dX2_matesOf_59 : decode cX2_matesOf 59 = .ok (.ireturn, 1) := by decide +kernel
set_option maxRecDepth 20000 in
theorem ggX3_init_X6_init : GoodIn wsX3_init wsX6_init := goodIn_r _ [20, 21, 2, 3, 12, 22, 23, 41, 42] (by decide +kernel) (by decide +kernel)
set_option maxRecDepth 20000 in
theorem gX3_init_X6_init_n11 : GoodIn wsX3_init (wsX6_init) := ggX3_init_X6_init
set_option maxRecDepth 20000 in
theorem ggX3_init_X1_init : GoodIn wsX3_init wsX1_init := goodIn_r _ [26, 27, 2, 3, 12, 28, 29, 30, 31, 32, 33, 34, 35, 36, 37, 38, 39, 40, 51, 52, 53, 54, 55, 56, 57, 58, 59, 60, 61, 62] (by decide +kernel) (by decide +kernel)
set_option maxRecDepth 20000 in
theorem gX3_init_X1_init : GoodIn wsX3_init (wsX1_init) := ggX3_init_X1_init
theorem dX3_init_0 : decode cX3_init 0 = .ok (.aload_n 0, 1) := by decide +kernel
theorem dX3_init_1 : decode cX3_init 1 = .ok (.invokespecial 5, 3) := by decide +kernel
theorem dX3_init_4 : decode cX3_init 4 = .ok (.aload_n 0, 1) := by decide +kernel
theorem dX3_init_5 : decode cX3_init 5 = .ok (.new 1, 3) := by decide +kernel
theorem dX3_init_8 : decode cX3_init 8 = .ok (.dup, 1) := by decide +kernel
theorem dX3_init_9 : decode cX3_init 9 = .ok (.invokespecial 11, 3) := by decide +kernel
theorem dX3_init_12 : decode cX3_init 12 = .ok (.putfield 12, 3) := by decide +kernel
theorem dX3_init_15 : decode cX3_init 15 = .ok (.aload_n 0, 1) := by decide +kernel
theorem dX3_init_16 : decode cX3_init 16 = .ok (.new 18, 3) := by decide +kernel
theorem dX3_init_19 : decode cX3_init 19 = .ok (.dup, 1) := by decide +kernel
theorem dX3_init_20 : decode cX3_init 20 = .ok (.invokespecial 20, 3) := by decide +kernel
theorem dX3_init_23 : decode cX3_init 23 = .ok (.putfield 21, 3) := by decide +kernel
theorem dX3_init_26 : decode cX3_init 26 = .ok (.aload_n 0, 1) := by decide +kernel
theorem dX3_init_27 : decode cX3_init 27 = .ok (.bipush 121, 2) := by decide +kernel
theorem dX3_init_29 : decode cX3_init 29 = .ok (.newarray .int, 2) := by decide +kernel
theorem dX3_init_31 : decode cX3_init 31 = .ok (.putfield 25, 3) := by decide +kernel
theorem dX3_init_34 : decode cX3_init 34 = .ok (.aload_n 0, 1) := by decide +kernel
theorem dX3_init_35 : decode cX3_init 35 = .ok (.bipush 121, 2) := by decide +kernel
theorem dX3_init_37 : decode cX3_init 37 = .ok (.newarray .int, 2) := by decide +kernel
theorem dX3_init_39 : decode cX3_init 39 = .ok (.putfield 29, 3) := by decide +kernel
theorem dX3_init_42 : decode cX3_init 42 = .ok (.aload_n 0, 1) := by decide +kernel
theorem dX3_init_43 : decode cX3_init 43 = .ok (.bipush 121, 2) := by decide +kernel
theorem dX3_init_45 : decode cX3_init 45 = .ok (.newarray .int, 2) := by decide +kernel
theorem dX3_init_47 : decode cX3_init 47 = .ok (.putfield 32, 3) := by decide +kernel
theorem dX3_init_50 : decode cX3_init 50 = .ok (.aload_n 0, 1) := by decide +kernel
theorem dX3_init_51 : decode cX3_init 51 = .ok (.bipush 121, 2) := by decide +kernel
theorem dX3_init_53 : decode cX3_init 53 = .ok (.newarray .int, 2) := by decide +kernel
theorem dX3_init_55 : decode cX3_init 55 = .ok (.putfield 35, 3) := by decide +kernel
theorem dX3_init_58 : decode cX3_init 58 = .ok (.aload_n 0, 1) := by decide +kernel
theorem dX3_init_59 : decode cX3_init 59 = .ok (.iconst 0, 1) := by decide +kernel
theorem dX3_init_60 : decode cX3_init 60 = .ok (.putfield 38, 3) := by decide +kernel
theorem dX3_init_63 : decode cX3_init 63 = .ok (.aload_n 0, 1) := by decide +kernel
theorem dX3_init_64 : decode cX3_init 64 = .ok (.iconst 0, 1) := by decide +kernel
theorem dX3_init_65 : decode cX3_init 65 = .ok (.putfield 42, 3) := by decide +kernel
theorem dX3_init_68 : decode cX3_init 68 = .ok (.return_, 1) := by decide +kernel
set_option maxRecDepth 20000 in
theorem ggX3_read_X3_split : GoodIn wsX3_read wsX3_split := goodIn_r _ [8, 9, 3, 10, 11, 12, 13, 14, 15, 16, 17, 18, 19, 20, 7, 21, 22, 23, 24, 25, 26, 2, 27, 28, 29, 30, 31, 32, 33, 34, 35, 36, 37, 187, 188, 189, 190, 191, 192, 193, 194, 195, 196] (by decide +kernel) (by decide +kernel)
set_option maxRecDepth 20000 in
theorem gX3_read_X3_split : GoodIn wsX3_read (wsV RX3 45 RX3 yX3_split wsX3_split) := goodIn_app (goodIn_of _ (by decide +kernel)) ggX3_read_X3_split
set_option maxRecDepth 20000 in
theorem ggX3_read_X1_become : GoodIn wsX3_read wsX1_become := goodIn_r _ [42, 43, 44, 45, 46, 47, 48, 49, 50, 51, 52, 53, 54, 55, 56, 57, 58, 197, 198, 199, 200, 201, 202, 203, 204, 205, 206, 207, 208] (by decide +kernel) (by decide +kernel)
set_option maxRecDepth 20000 in
theorem gX3_read_X1_become : GoodIn wsX3_read (wsV RX3 48 RX1 yX1_become wsX1_become) := goodIn_app (goodIn_of _ (by decide +kernel)) ggX3_read_X1_become
set_option maxRecDepth 20000 in
theorem ggX3_read_X3_readItem : GoodIn wsX3_read wsX3_readItem := goodIn_r _ [62, 63, 64, 65, 7, 66, 67, 68, 69, 70, 32, 3, 2, 10, 71, 72, 73, 74, 26, 75, 76, 77, 78, 79, 80, 81, 82, 83, 84, 85, 86, 12, 13, 14, 15, 16, 17, 18, 87, 88, 89, 90, 91, 92, 93, 94, 95, 96, 97, 98, 99, 100, 101, 102, 103, 104, 105, 106, 107, 108, 109, 110, 111, 112, 113, 114, 115, 116, 117, 118, 119, 120, 121, 122, 123, 124, 125, 126, 127, 1, 128, 129, 130, 131, 132, 133, 134, 41, 135, 53, 136, 137, 138, 139, 43, 48, 49, 50, 51, 140, 141, 142, 143, 144, 9, 145, 146, 147, 148, 27, 149, 150, 151, 152, 153, 154, 155, 156, 157, 158, 159, 160, 161, 162, 163, 164, 165, 166, 167, 168, 169, 170, 171, 172, 173, 174, 175, 176, 177, 178, 179, 180, 181, 182, 183, 184, 185, 186, 187, 188, 189, 190, 191, 192, 193, 194, 195, 196, 197, 198, 199, 200, 201, 202, 203, 204, 205, 206, 207, 208] (by decide +kernel) (by decide +kernel)
set_option maxRecDepth 20000 in
theorem gX3_read_X3_readItem : GoodIn wsX3_read (wsV RX3 52 RX3 yX3_readItem wsX3_readItem) := goodIn_app (goodIn_of _ (by decide +kernel)) ggX3_read_X3_readItem
set_option maxRecDepth 20000 in
theorem ggX3_read_X3_isNext : GoodIn wsX3_read wsX3_isNext := goodIn_r _ [74, 26, 3, 187, 188, 189, 190, 191, 192, 193, 194] (by decide +kernel) (by decide +kernel)
set_option maxRecDepth 20000 in
theorem gX3_read_X3_isNext : GoodIn wsX3_read (wsV RX3 56 RX3 yX3_isNext wsX3_isNext) := goodIn_app (goodIn_of _ (by decide +kernel)) ggX3_read_X3_isNext
set_option maxRecDepth 20000 in
theorem ggX3_read_X3_step : GoodIn wsX3_read wsX3_step := goodIn_r _ [144, 3, 9, 187, 188, 189, 190, 191, 192, 193, 194] (by decide +kernel) (by decide +kernel)
set_option maxRecDepth 20000 in
theorem gX3_read_X3_step : GoodIn wsX3_read (wsV RX3 60 RX3 yX3_step wsX3_step) := goodIn_app (goodIn_of _ (by decide +kernel)) ggX3_read_X3_step
theorem dX3_read_0 : decode cX3_read 0 = .ok (.aload_n 0, 1) := by decide +kernel
theorem dX3_read_1 : decode cX3_read 1 = .ok (.invokevirtual 45, 3) := by decide +kernel
theorem dX3_read_4 : decode cX3_read 4 = .ok (.aload_n 0, 1) := by decide +kernel
theorem dX3_read_5 : decode cX3_read 5 = .ok (.getfield 21, 3) := by decide +kernel
theorem dX3_read_8 : decode cX3_read 8 = .ok (.aload_n 1, 1) := by decide +kernel
theorem dX3_read_9 : decode cX3_read 9 = .ok (.invokevirtual 48, 3) := by decide +kernel
theorem dX3_read_12 : decode cX3_read 12 = .ok (.iconst 1, 1) := by decide +kernel
theorem dX3_read_13 : decode cX3_read 13 = .ok (.istore_n 2, 1) := by decide +kernel
theorem dX3_read_14 : decode cX3_read 14 = .ok (.iload_n 2, 1) := by decide +kernel
theorem dX3_read_15 : decode cX3_read 15 = .ok (.bipush 121, 2) := by decide +kernel
theorem dX3_read_17 : decode cX3_read 17 = .ok (.if_icmp .ge 49, 3) := by decide +kernel
theorem dX3_read_20 : decode cX3_read 20 = .ok (.aload_n 0, 1) := by decide +kernel
theorem dX3_read_21 : decode cX3_read 21 = .ok (.invokevirtual 52, 3) := by decide +kernel
theorem dX3_read_24 : decode cX3_read 24 = .ok (.ifCond .eq 42, 3) := by decide +kernel
theorem dX3_read_27 : decode cX3_read 27 = .ok (.aload_n 0, 1) := by decide +kernel
theorem dX3_read_28 : decode cX3_read 28 = .ok (.iconst 0, 1) := by decide +kernel
theorem dX3_read_29 : decode cX3_read 29 = .ok (.invokevirtual 56, 3) := by decide +kernel
theorem dX3_read_32 : decode cX3_read 32 = .ok (.ifCond .eq 13, 3) := by decide +kernel
theorem dX3_read_35 : decode cX3_read 35 = .ok (.aload_n 1, 1) := by decide +kernel
theorem dX3_read_36 : decode cX3_read 36 = .ok (.aload_n 0, 1) := by decide +kernel
theorem dX3_read_37 : decode cX3_read 37 = .ok (.getfield 21, 3) := by decide +kernel
theorem dX3_read_40 : decode cX3_read 40 = .ok (.invokevirtual 48, 3) := by decide +kernel
theorem dX3_read_43 : decode cX3_read 43 = .ok (.iload_n 2, 1) := by decide +kernel
theorem dX3_read_44 : decode cX3_read 44 = .ok (.ireturn, 1) := by decide +kernel
theorem dX3_read_45 : decode cX3_read 45 = .ok (.aload_n 0, 1) := by decide +kernel
theorem dX3_read_46 : decode cX3_read 46 = .ok (.iconst 3, 1) := by decide +kernel
theorem dX3_read_47 : decode cX3_read 47 = .ok (.invokevirtual 56, 3) := by decide +kernel
theorem dX3_read_50 : decode cX3_read 50 = .ok (.ifCond .ne 6, 3) := by decide +kernel
theorem dX3_read_53 : decode cX3_read 53 = .ok (.goto 13, 3) := by decide +kernel
theorem dX3_read_56 : decode cX3_read 56 = .ok (.aload_n 0, 1) := by decide +kernel
theorem dX3_read_57 : decode cX3_read 57 = .ok (.invokevirtual 60, 3) := by decide +kernel
theorem dX3_read_60 : decode cX3_read 60 = .ok (.iinc 2 1, 3) := by decide +kernel
theorem dX3_read_63 : decode cX3_read 63 = .ok (.goto (-49), 3) := by decide +kernel
theorem dX3_read_66 : decode cX3_read 66 = .ok (.iconst (-1), 1) := by decide +kernel
theorem dX3_read_67 : decode cX3_read 67 = .ok (.aload_n 0, 1) := by decide +kernel
theorem dX3_read_68 : decode cX3_read 68 = .ok (.getfield 29, 3) := by decide +kernel
theorem dX3_read_71 : decode cX3_read 71 = .ok (.aload_n 0, 1) := by decide +kernel
theorem dX3_read_72 : decode cX3_read 72 = .ok (.getfield 42, 3) := by decide +kernel
theorem dX3_read_75 : decode cX3_read 75 = .ok (.iaload, 1) := by decide +kernel
theorem dX3_read_76 : decode cX3_read 76 = .ok (.isub, 1) := by decide +kernel
theorem dX3_read_77 : decode cX3_read 77 = .ok (.ireturn, 1) := by decide +kernel
set_option maxRecDepth 20000 in
theorem ggX3_split_X6_byteAt : GoodIn wsX3_split wsX6_byteAt := goodIn_r _ [9, 10, 11, 41, 42] (by decide +kernel) (by decide +kernel)
set_option maxRecDepth 20000 in
theorem gX3_split_X6_byteAt : GoodIn wsX3_split (wsV RX3 66 RX6 yX6_byteAt wsX6_byteAt) := goodIn_app (goodIn_of _ (by decide +kernel)) ggX3_split_X6_byteAt
set_option maxRecDepth 20000 in
theorem ggX3_split_X3_typeOf : GoodIn wsX3_split wsX3_typeOf := goodIn_r _ [15] (by decide +kernel) (by decide +kernel)
set_option maxRecDepth 20000 in
theorem gX3_split_X3_typeOf : GoodIn wsX3_split (va_wsS RX3 70 yX3_typeOf wsX3_typeOf) := goodIn_app (goodIn_of _ (by decide +kernel)) ggX3_split_X3_typeOf
set_option maxRecDepth 20000 in
theorem ggX3_split_X3_beginToken : GoodIn wsX3_split wsX3_beginToken := goodIn_r _ [19, 1, 20, 21, 22, 33, 34, 35, 36, 37, 38, 39, 40] (by decide +kernel) (by decide +kernel)
set_option maxRecDepth 20000 in
theorem gX3_split_X3_beginToken : GoodIn wsX3_split (wsV RX3 73 RX3 yX3_beginToken wsX3_beginToken) := goodIn_app (goodIn_of _ (by decide +kernel)) ggX3_split_X3_beginToken
set_option maxRecDepth 20000 in
theorem ggX3_split_X3_lengthenToken : GoodIn wsX3_split wsX3_lengthenToken := goodIn_r _ [26, 1, 27, 22, 3, 28, 29, 30, 31, 32, 5, 6, 7, 8, 9, 10, 11, 33, 34, 35, 36, 37, 38, 39, 40, 41, 42] (by decide +kernel) (by decide +kernel)
set_option maxRecDepth 20000 in
theorem gX3_split_X3_lengthenToken : GoodIn wsX3_split (wsV RX3 77 RX3 yX3_lengthenToken wsX3_lengthenToken) := goodIn_app (goodIn_of _ (by decide +kernel)) ggX3_split_X3_lengthenToken
theorem dX3_split_0 : decode cX3_split 0 = .ok (.aload_n 0, 1) := by decide +kernel
theorem dX3_split_1 : decode cX3_split 1 = .ok (.iconst 0, 1) := by decide +kernel
theorem dX3_split_2 : decode cX3_split 2 = .ok (.putfield 38, 3) := by decide +kernel
theorem dX3_split_5 : decode cX3_split 5 = .ok (.aload_n 0, 1) := by decide +kernel
theorem dX3_split_6 : decode cX3_split 6 = .ok (.iconst 0, 1) := by decide +kernel
theorem dX3_split_7 : decode cX3_split 7 = .ok (.putfield 42, 3) := by decide +kernel
theorem dX3_split_10 : decode cX3_split 10 = .ok (.iconst 0, 1) := by decide +kernel
theorem dX3_split_11 : decode cX3_split 11 = .ok (.istore_n 1, 1) := by decide +kernel
theorem dX3_split_12 : decode cX3_split 12 = .ok (.iload_n 1, 1) := by decide +kernel
theorem dX3_split_13 : decode cX3_split 13 = .ok (.aload_n 0, 1) := by decide +kernel
theorem dX3_split_14 : decode cX3_split 14 = .ok (.getfield 12, 3) := by decide +kernel
theorem dX3_split_17 : decode cX3_split 17 = .ok (.getfield 63, 3) := by decide +kernel
theorem dX3_split_20 : decode cX3_split 20 = .ok (.if_icmp .ge 73, 3) := by decide +kernel
theorem dX3_split_23 : decode cX3_split 23 = .ok (.aload_n 0, 1) := by decide +kernel
theorem dX3_split_24 : decode cX3_split 24 = .ok (.getfield 12, 3) := by decide +kernel
theorem dX3_split_27 : decode cX3_split 27 = .ok (.iload_n 1, 1) := by decide +kernel
theorem dX3_split_28 : decode cX3_split 28 = .ok (.invokevirtual 66, 3) := by decide +kernel
theorem dX3_split_31 : decode cX3_split 31 = .ok (.invokestatic 70, 3) := by decide +kernel
theorem dX3_split_34 : decode cX3_split 34 = .ok (.istore_n 2, 1) := by decide +kernel
theorem dX3_split_35 : decode cX3_split 35 = .ok (.iload_n 2, 1) := by decide +kernel
theorem dX3_split_36 : decode cX3_split 36 = .ok (.iconst 1, 1) := by decide +kernel
theorem dX3_split_37 : decode cX3_split 37 = .ok (.if_icmp .eq 8, 3) := by decide +kernel
theorem dX3_split_40 : decode cX3_split 40 = .ok (.iload_n 2, 1) := by decide +kernel
theorem dX3_split_41 : decode cX3_split 41 = .ok (.iconst 2, 1) := by decide +kernel
theorem dX3_split_42 : decode cX3_split 42 = .ok (.if_icmp .ne 7, 3) := by decide +kernel
theorem dX3_split_45 : decode cX3_split 45 = .ok (.iconst 1, 1) := by decide +kernel
theorem dX3_split_46 : decode cX3_split 46 = .ok (.goto 4, 3) := by decide +kernel
theorem dX3_split_49 : decode cX3_split 49 = .ok (.iconst 0, 1) := by decide +kernel
theorem dX3_split_50 : decode cX3_split 50 = .ok (.istore_n 3, 1) := by decide +kernel
theorem dX3_split_51 : decode cX3_split 51 = .ok (.iload_n 3, 1) := by decide +kernel
theorem dX3_split_52 : decode cX3_split 52 = .ok (.ifCond .eq 20, 3) := by decide +kernel
theorem dX3_split_55 : decode cX3_split 55 = .ok (.aload_n 0, 1) := by decide +kernel
theorem dX3_split_56 : decode cX3_split 56 = .ok (.getfield 12, 3) := by decide +kernel
theorem dX3_split_59 : decode cX3_split 59 = .ok (.iload_n 1, 1) := by decide +kernel
theorem dX3_split_60 : decode cX3_split 60 = .ok (.iconst 1, 1) := by decide +kernel
theorem dX3_split_61 : decode cX3_split 61 = .ok (.isub, 1) := by decide +kernel
theorem dX3_split_62 : decode cX3_split 62 = .ok (.invokevirtual 66, 3) := by decide +kernel
theorem dX3_split_65 : decode cX3_split 65 = .ok (.invokestatic 70, 3) := by decide +kernel
theorem dX3_split_68 : decode cX3_split 68 = .ok (.iload_n 2, 1) := by decide +kernel
theorem dX3_split_69 : decode cX3_split 69 = .ok (.if_icmp .eq 9, 3) := by decide +kernel
theorem dX3_split_72 : decode cX3_split 72 = .ok (.aload_n 0, 1) := by decide +kernel
theorem dX3_split_73 : decode cX3_split 73 = .ok (.iload_n 2, 1) := by decide +kernel
theorem dX3_split_74 : decode cX3_split 74 = .ok (.iload_n 1, 1) := by decide +kernel
theorem dX3_split_75 : decode cX3_split 75 = .ok (.invokevirtual 73, 3) := by decide +kernel
theorem dX3_split_78 : decode cX3_split 78 = .ok (.iload_n 3, 1) := by decide +kernel
theorem dX3_split_79 : decode cX3_split 79 = .ok (.ifCond .eq 8, 3) := by decide +kernel
theorem dX3_split_82 : decode cX3_split 82 = .ok (.aload_n 0, 1) := by decide +kernel
theorem dX3_split_83 : decode cX3_split 83 = .ok (.iload_n 1, 1) := by decide +kernel
theorem dX3_split_84 : decode cX3_split 84 = .ok (.invokevirtual 77, 3) := by decide +kernel
theorem dX3_split_87 : decode cX3_split 87 = .ok (.iinc 1 1, 3) := by decide +kernel
theorem dX3_split_90 : decode cX3_split 90 = .ok (.goto (-78), 3) := by decide +kernel
theorem dX3_split_93 : decode cX3_split 93 = .ok (.aload_n 0, 1) := by decide +kernel
theorem dX3_split_94 : decode cX3_split 94 = .ok (.iconst 0, 1) := by decide +kernel
theorem dX3_split_95 : decode cX3_split 95 = .ok (.aload_n 0, 1) := by decide +kernel
theorem dX3_split_96 : decode cX3_split 96 = .ok (.getfield 12, 3) := by decide +kernel
theorem dX3_split_99 : decode cX3_split 99 = .ok (.getfield 63, 3) := by decide +kernel
theorem dX3_split_102 : decode cX3_split 102 = .ok (.invokevirtual 73, 3) := by decide +kernel
theorem dX3_split_105 : decode cX3_split 105 = .ok (.return_, 1) := by decide +kernel
theorem dX3_beginToken_0 : decode cX3_beginToken 0 = .ok (.iload_n 1, 1) := by decide +kernel
theorem dX3_beginToken_1 : decode cX3_beginToken 1 = .ok (.iconst 4, 1) := by decide +kernel
theorem dX3_beginToken_2 : decode cX3_beginToken 2 = .ok (.if_icmp .eq 52, 3) := by decide +kernel
theorem dX3_beginToken_5 : decode cX3_beginToken 5 = .ok (.aload_n 0, 1) := by decide +kernel
theorem dX3_beginToken_6 : decode cX3_beginToken 6 = .ok (.getfield 38, 3) := by decide +kernel
theorem dX3_beginToken_9 : decode cX3_beginToken 9 = .ok (.bipush 121, 2) := by decide +kernel
theorem dX3_beginToken_11 : decode cX3_beginToken 11 = .ok (.if_icmp .ge 43, 3) := by decide +kernel
theorem dX3_beginToken_14 : decode cX3_beginToken 14 = .ok (.aload_n 0, 1) := by decide +kernel
theorem dX3_beginToken_15 : decode cX3_beginToken 15 = .ok (.getfield 25, 3) := by decide +kernel
theorem dX3_beginToken_18 : decode cX3_beginToken 18 = .ok (.aload_n 0, 1) := by decide +kernel
theorem dX3_beginToken_19 : decode cX3_beginToken 19 = .ok (.getfield 38, 3) := by decide +kernel
theorem dX3_beginToken_22 : decode cX3_beginToken 22 = .ok (.iload_n 1, 1) := by decide +kernel
theorem dX3_beginToken_23 : decode cX3_beginToken 23 = .ok (.iastore, 1) := by decide +kernel
theorem dX3_beginToken_24 : decode cX3_beginToken 24 = .ok (.aload_n 0, 1) := by decide +kernel
theorem dX3_beginToken_25 : decode cX3_beginToken 25 = .ok (.getfield 29, 3) := by decide +kernel
theorem dX3_beginToken_28 : decode cX3_beginToken 28 = .ok (.aload_n 0, 1) := by decide +kernel
theorem dX3_beginToken_29 : decode cX3_beginToken 29 = .ok (.getfield 38, 3) := by decide +kernel
theorem dX3_beginToken_32 : decode cX3_beginToken 32 = .ok (.iload_n 2, 1) := by decide +kernel
theorem dX3_beginToken_33 : decode cX3_beginToken 33 = .ok (.iastore, 1) := by decide +kernel
theorem dX3_beginToken_34 : decode cX3_beginToken 34 = .ok (.aload_n 0, 1) := by decide +kernel
theorem dX3_beginToken_35 : decode cX3_beginToken 35 = .ok (.getfield 35, 3) := by decide +kernel
theorem dX3_beginToken_38 : decode cX3_beginToken 38 = .ok (.aload_n 0, 1) := by decide +kernel
theorem dX3_beginToken_39 : decode cX3_beginToken 39 = .ok (.getfield 38, 3) := by decide +kernel
theorem dX3_beginToken_42 : decode cX3_beginToken 42 = .ok (.iconst 0, 1) := by decide +kernel
theorem dX3_beginToken_43 : decode cX3_beginToken 43 = .ok (.iastore, 1) := by decide +kernel
theorem dX3_beginToken_44 : decode cX3_beginToken 44 = .ok (.aload_n 0, 1) := by decide +kernel
theorem dX3_beginToken_45 : decode cX3_beginToken 45 = .ok (.dup, 1) := by decide +kernel
theorem dX3_beginToken_46 : decode cX3_beginToken 46 = .ok (.getfield 38, 3) := by decide +kernel
theorem dX3_beginToken_49 : decode cX3_beginToken 49 = .ok (.iconst 1, 1) := by decide +kernel
theorem dX3_beginToken_50 : decode cX3_beginToken 50 = .ok (.iadd, 1) := by decide +kernel
theorem dX3_beginToken_51 : decode cX3_beginToken 51 = .ok (.putfield 38, 3) := by decide +kernel
theorem dX3_beginToken_54 : decode cX3_beginToken 54 = .ok (.return_, 1) := by decide +kernel
set_option maxRecDepth 20000 in
theorem ggX3_lengthenToken_X6_byteAt : GoodIn wsX3_lengthenToken wsX6_byteAt := goodIn_r _ [14, 15, 16, 25, 26] (by decide +kernel) (by decide +kernel)
set_option maxRecDepth 20000 in
theorem gX3_lengthenToken_X6_byteAt : GoodIn wsX3_lengthenToken (wsV RX3 66 RX6 yX6_byteAt wsX6_byteAt) := goodIn_app (goodIn_of _ (by decide +kernel)) ggX3_lengthenToken_X6_byteAt
theorem dX3_lengthenToken_0 : decode cX3_lengthenToken 0 = .ok (.aload_n 0, 1) := by decide +kernel
theorem dX3_lengthenToken_1 : decode cX3_lengthenToken 1 = .ok (.getfield 38, 3) := by decide +kernel
theorem dX3_lengthenToken_4 : decode cX3_lengthenToken 4 = .ok (.iconst 1, 1) := by decide +kernel
theorem dX3_lengthenToken_5 : decode cX3_lengthenToken 5 = .ok (.isub, 1) := by decide +kernel
theorem dX3_lengthenToken_6 : decode cX3_lengthenToken 6 = .ok (.istore_n 2, 1) := by decide +kernel
theorem dX3_lengthenToken_7 : decode cX3_lengthenToken 7 = .ok (.iload_n 2, 1) := by decide +kernel
theorem dX3_lengthenToken_8 : decode cX3_lengthenToken 8 = .ok (.ifCond .lt 44, 3) := by decide +kernel
theorem dX3_lengthenToken_11 : decode cX3_lengthenToken 11 = .ok (.aload_n 0, 1) := by decide +kernel
theorem dX3_lengthenToken_12 : decode cX3_lengthenToken 12 = .ok (.getfield 32, 3) := by decide +kernel
theorem dX3_lengthenToken_15 : decode cX3_lengthenToken 15 = .ok (.iload_n 2, 1) := by decide +kernel
theorem dX3_lengthenToken_16 : decode cX3_lengthenToken 16 = .ok (.iload_n 1, 1) := by decide +kernel
theorem dX3_lengthenToken_17 : decode cX3_lengthenToken 17 = .ok (.iconst 1, 1) := by decide +kernel
theorem dX3_lengthenToken_18 : decode cX3_lengthenToken 18 = .ok (.iadd, 1) := by decide +kernel
theorem dX3_lengthenToken_19 : decode cX3_lengthenToken 19 = .ok (.iastore, 1) := by decide +kernel
theorem dX3_lengthenToken_20 : decode cX3_lengthenToken 20 = .ok (.aload_n 0, 1) := by decide +kernel
theorem dX3_lengthenToken_21 : decode cX3_lengthenToken 21 = .ok (.getfield 35, 3) := by decide +kernel
theorem dX3_lengthenToken_24 : decode cX3_lengthenToken 24 = .ok (.iload_n 2, 1) := by decide +kernel
theorem dX3_lengthenToken_25 : decode cX3_lengthenToken 25 = .ok (.bipush 10, 2) := by decide +kernel
theorem dX3_lengthenToken_27 : decode cX3_lengthenToken 27 = .ok (.aload_n 0, 1) := by decide +kernel
theorem dX3_lengthenToken_28 : decode cX3_lengthenToken 28 = .ok (.getfield 35, 3) := by decide +kernel
theorem dX3_lengthenToken_31 : decode cX3_lengthenToken 31 = .ok (.iload_n 2, 1) := by decide +kernel
theorem dX3_lengthenToken_32 : decode cX3_lengthenToken 32 = .ok (.iaload, 1) := by decide +kernel
theorem dX3_lengthenToken_33 : decode cX3_lengthenToken 33 = .ok (.imul, 1) := by decide +kernel
theorem dX3_lengthenToken_34 : decode cX3_lengthenToken 34 = .ok (.aload_n 0, 1) := by decide +kernel
theorem dX3_lengthenToken_35 : decode cX3_lengthenToken 35 = .ok (.getfield 12, 3) := by decide +kernel
theorem dX3_lengthenToken_38 : decode cX3_lengthenToken 38 = .ok (.iload_n 1, 1) := by decide +kernel
theorem dX3_lengthenToken_39 : decode cX3_lengthenToken 39 = .ok (.invokevirtual 66, 3) := by decide +kernel
theorem dX3_lengthenToken_42 : decode cX3_lengthenToken 42 = .ok (.iadd, 1) := by decide +kernel
theorem dX3_lengthenToken_43 : decode cX3_lengthenToken 43 = .ok (.bipush 48, 2) := by decide +kernel
theorem dX3_lengthenToken_45 : decode cX3_lengthenToken 45 = .ok (.isub, 1) := by decide +kernel
theorem dX3_lengthenToken_46 : decode cX3_lengthenToken 46 = .ok (.ldc 81, 2) := by decide +kernel
theorem dX3_lengthenToken_48 : decode cX3_lengthenToken 48 = .ok (.invokestatic 82, 3) := by decide +kernel
theorem dX3_lengthenToken_51 : decode cX3_lengthenToken 51 = .ok (.iastore, 1) := by decide +kernel
theorem dX3_lengthenToken_52 : decode cX3_lengthenToken 52 = .ok (.return_, 1) := by decide +kernel
theorem dX3_typeOf_0 : decode cX3_typeOf 0 = .ok (.iload_n 0, 1) := by decide +kernel
theorem dX3_typeOf_1 : decode cX3_typeOf 1 = .ok (.bipush 97, 2) := by decide +kernel
theorem dX3_typeOf_3 : decode cX3_typeOf 3 = .ok (.if_icmp .lt 11, 3) := by decide +kernel
theorem dX3_typeOf_6 : decode cX3_typeOf 6 = .ok (.iload_n 0, 1) := by decide +kernel
theorem dX3_typeOf_7 : decode cX3_typeOf 7 = .ok (.bipush 122, 2) := by decide +kernel
theorem dX3_typeOf_9 : decode cX3_typeOf 9 = .ok (.if_icmp .gt 5, 3) := by decide +kernel
theorem dX3_typeOf_12 : decode cX3_typeOf 12 = .ok (.iconst 1, 1) := by decide +kernel
theorem dX3_typeOf_13 : decode cX3_typeOf 13 = .ok (.ireturn, 1) := by decide +kernel
theorem dX3_typeOf_14 : decode cX3_typeOf 14 = .ok (.iload_n 0, 1) := by decide +kernel
theorem dX3_typeOf_15 : decode cX3_typeOf 15 = .ok (.bipush 48, 2) := by decide +kernel
theorem dX3_typeOf_17 : decode cX3_typeOf 17 = .ok (.if_icmp .lt 11, 3) := by decide +kernel
theorem dX3_typeOf_20 : decode cX3_typeOf 20 = .ok (.iload_n 0, 1) := by decide +kernel
theorem dX3_typeOf_21 : decode cX3_typeOf 21 = .ok (.bipush 57, 2) := by decide +kernel
theorem dX3_typeOf_23 : decode cX3_typeOf 23 = .ok (.if_icmp .gt 5, 3) := by decide +kernel
theorem dX3_typeOf_26 : decode cX3_typeOf 26 = .ok (.iconst 2, 1) := by decide +kernel
theorem dX3_typeOf_27 : decode cX3_typeOf 27 = .ok (.ireturn, 1) := by decide +kernel
theorem dX3_typeOf_28 : decode cX3_typeOf 28 = .ok (.iload_n 0, 1) := by decide +kernel
theorem dX3_typeOf_29 : decode cX3_typeOf 29 = .ok (.bipush 32, 2) := by decide +kernel
theorem dX3_typeOf_31 : decode cX3_typeOf 31 = .ok (.if_icmp .ne 5, 3) := by decide +kernel
theorem dX3_typeOf_34 : decode cX3_typeOf 34 = .ok (.iconst 4, 1) := by decide +kernel
theorem dX3_typeOf_35 : decode cX3_typeOf 35 = .ok (.ireturn, 1) := by decide +kernel
theorem dX3_typeOf_36 : decode cX3_typeOf 36 = .ok (.iload_n 0, 1) := by decide +kernel
theorem dX3_typeOf_37 : decode cX3_typeOf 37 = .ok (.bipush 59, 2) := by decide +kernel
theorem dX3_typeOf_39 : decode cX3_typeOf 39 = .ok (.if_icmp .ne 7, 3) := by decide +kernel
theorem dX3_typeOf_42 : decode cX3_typeOf 42 = .ok (.iconst 3, 1) := by decide +kernel
theorem dX3_typeOf_43 : decode cX3_typeOf 43 = .ok (.goto 4, 3) := by decide +kernel
theorem dX3_typeOf_46 : decode cX3_typeOf 46 = .ok (.iconst 5, 1) := by decide +kernel
theorem dX3_typeOf_47 : decode cX3_typeOf 47 = .ok (.ireturn, 1) := by decide +kernel
set_option maxRecDepth 20000 in
theorem ggX3_readItem_X3_kindOfWord : GoodIn wsX3_readItem wsX3_kindOfWord := goodIn_r _ [5, 6, 7, 8, 4, 9, 10, 11, 12, 13, 14, 15, 16, 17, 18, 19, 20, 21, 22, 23, 24, 25, 26, 27, 28, 29, 30, 31, 32, 33, 34, 35, 36, 37, 38, 39, 40, 41, 42, 43, 44, 45, 46, 47, 48, 49, 50, 51, 52, 53, 54, 55, 56, 57, 58, 59, 60, 61, 62, 63, 64, 65, 66, 67, 68, 69, 70, 71, 72, 73, 74, 148, 149, 150, 151, 152, 153, 154, 155, 156, 157] (by decide +kernel) (by decide +kernel)
set_option maxRecDepth 20000 in
theorem gX3_readItem_X3_kindOfWord : GoodIn wsX3_readItem (wsV RX3 88 RX3 yX3_kindOfWord wsX3_kindOfWord) := goodIn_app (goodIn_of _ (by decide +kernel)) ggX3_readItem_X3_kindOfWord
set_option maxRecDepth 20000 in
theorem ggX3_readItem_X3_readPerson : GoodIn wsX3_readItem wsX3_readPerson := goodIn_r _ [78, 79, 80, 81, 82, 83, 84, 85, 86, 87, 88, 89, 1, 2, 3, 4, 5, 6, 7, 8, 9, 10, 11, 12, 13, 14, 15, 16, 17, 18, 19, 20, 21, 22, 23, 24, 25, 26, 27, 28, 29, 30, 31, 32, 33, 34, 35, 36, 37, 38, 39, 40, 41, 42, 43, 44, 45, 46, 47, 48, 49, 50, 51, 52, 53, 54, 55, 56, 57, 58, 59, 60, 61, 62, 63, 64, 65, 66, 67, 68, 69, 70, 71, 72, 73, 74, 90, 91, 92, 93, 94, 95, 96, 97, 98, 99, 100, 101, 102, 103, 104, 105, 106, 107, 108, 109, 110, 111, 112, 113, 114, 115, 116, 148, 149, 150, 151, 152, 153, 154, 155, 158, 159, 160, 161, 162, 163, 164, 165, 166, 167, 168, 169, 156, 157] (by decide +kernel) (by decide +kernel)
set_option maxRecDepth 20000 in
theorem gX3_readItem_X3_readPerson : GoodIn wsX3_readItem (wsV RX3 92 RX3 yX3_readPerson wsX3_readPerson) := goodIn_app (goodIn_of _ (by decide +kernel)) ggX3_readItem_X3_readPerson
set_option maxRecDepth 20000 in
theorem ggX3_readItem_X3_isWord : GoodIn wsX3_readItem wsX3_isWord := goodIn_r _ [9, 10, 11, 12, 13, 14, 15, 16, 4, 17, 18, 19, 20, 21, 22, 23, 24, 25, 26, 27, 28, 29, 30, 31, 32, 33, 34, 35, 36, 37, 38, 39, 40, 41, 42, 43, 44, 45, 46, 47, 48, 49, 50, 51, 52, 53, 54, 55, 56, 57, 58, 59, 60, 61, 62, 63, 64, 65, 66, 67, 68, 69, 70, 71, 72, 73, 74, 148, 149, 150, 151, 152, 153, 154, 155, 156, 157] (by decide +kernel) (by decide +kernel)
set_option maxRecDepth 20000 in
theorem gX3_readItem_X3_isWord : GoodIn wsX3_readItem (wsV RX3 97 RX3 yX3_isWord wsX3_isWord) := goodIn_app (goodIn_of _ (by decide +kernel)) ggX3_readItem_X3_isWord
set_option maxRecDepth 20000 in
theorem ggX3_readItem_X3_readShare : GoodIn wsX3_readItem wsX3_readShare := goodIn_r _ [120, 109, 11, 79, 121, 100, 101, 102, 4, 103, 104, 110, 111, 112, 113, 14, 15, 16, 17, 18, 122, 123, 124, 87, 125, 98, 126, 127, 128, 129, 130, 131, 132, 133, 89, 134, 135, 136, 137, 148, 149, 150, 151, 152, 153, 154, 155, 158, 159, 160, 161, 162, 163, 164, 165, 166, 167, 168, 169] (by decide +kernel) (by decide +kernel)
set_option maxRecDepth 20000 in
theorem gX3_readItem_X3_readShare : GoodIn wsX3_readItem (wsV RX3 101 RX3 yX3_readShare wsX3_readShare) := goodIn_app (goodIn_of _ (by decide +kernel)) ggX3_readItem_X3_readShare
set_option maxRecDepth 20000 in
theorem ggX3_readItem_X3_readLight : GoodIn wsX3_readItem wsX3_readLight := goodIn_r _ [141, 109, 11, 83, 79, 142, 100, 101, 102, 4, 103, 104, 110, 111, 112, 113, 14, 15, 16, 17, 18, 148, 149, 150, 151, 152, 153, 154, 155, 158, 159, 160, 161, 162, 163, 164, 165, 166, 167, 168, 169] (by decide +kernel) (by decide +kernel)
set_option maxRecDepth 20000 in
theorem gX3_readItem_X3_readLight : GoodIn wsX3_readItem (wsV RX3 106 RX3 yX3_readLight wsX3_readLight) := goodIn_app (goodIn_of _ (by decide +kernel)) ggX3_readItem_X3_readLight
set_option maxRecDepth 20000 in
theorem ggX3_readItem_X3_readHour : GoodIn wsX3_readItem wsX3_readHour := goodIn_r _ [146, 109, 11, 79, 147, 100, 101, 102, 4, 103, 104, 110, 111, 112, 113, 14, 15, 16, 17, 18, 148, 149, 150, 151, 152, 153, 154, 155, 158, 159, 160, 161, 162, 163, 164, 165, 166, 167, 168, 169] (by decide +kernel) (by decide +kernel)
set_option maxRecDepth 20000 in
theorem gX3_readItem_X3_readHour : GoodIn wsX3_readItem (wsV RX3 111 RX3 yX3_readHour wsX3_readHour) := goodIn_app (goodIn_of _ (by decide +kernel)) ggX3_readItem_X3_readHour
theorem dX3_readItem_0 : decode cX3_readItem 0 = .ok (.aload_n 0, 1) := by decide +kernel
theorem dX3_readItem_1 : decode cX3_readItem 1 = .ok (.invokevirtual 88, 3) := by decide +kernel
theorem dX3_readItem_4 : decode cX3_readItem 4 = .ok (.ifCond .lt 8, 3) := by decide +kernel
theorem dX3_readItem_7 : decode cX3_readItem 7 = .ok (.aload_n 0, 1) := by decide +kernel
theorem dX3_readItem_8 : decode cX3_readItem 8 = .ok (.invokevirtual 92, 3) := by decide +kernel
theorem dX3_readItem_11 : decode cX3_readItem 11 = .ok (.ireturn, 1) := by decide +kernel
theorem dX3_readItem_12 : decode cX3_readItem 12 = .ok (.aload_n 0, 1) := by decide +kernel
theorem dX3_readItem_13 : decode cX3_readItem 13 = .ok (.ldc 95, 2) := by decide +kernel
theorem dX3_readItem_15 : decode cX3_readItem 15 = .ok (.invokevirtual 97, 3) := by decide +kernel
theorem dX3_readItem_18 : decode cX3_readItem 18 = .ok (.ifCond .eq 8, 3) := by decide +kernel
theorem dX3_readItem_21 : decode cX3_readItem 21 = .ok (.aload_n 0, 1) := by decide +kernel
theorem dX3_readItem_22 : decode cX3_readItem 22 = .ok (.invokevirtual 101, 3) := by decide +kernel
theorem dX3_readItem_25 : decode cX3_readItem 25 = .ok (.ireturn, 1) := by decide +kernel
theorem dX3_readItem_26 : decode cX3_readItem 26 = .ok (.aload_n 0, 1) := by decide +kernel
theorem dX3_readItem_27 : decode cX3_readItem 27 = .ok (.ldc 104, 2) := by decide +kernel
theorem dX3_readItem_29 : decode cX3_readItem 29 = .ok (.invokevirtual 97, 3) := by decide +kernel
theorem dX3_readItem_32 : decode cX3_readItem 32 = .ok (.ifCond .eq 8, 3) := by decide +kernel
theorem dX3_readItem_35 : decode cX3_readItem 35 = .ok (.aload_n 0, 1) := by decide +kernel
theorem dX3_readItem_36 : decode cX3_readItem 36 = .ok (.invokevirtual 106, 3) := by decide +kernel
theorem dX3_readItem_39 : decode cX3_readItem 39 = .ok (.ireturn, 1) := by decide +kernel
theorem dX3_readItem_40 : decode cX3_readItem 40 = .ok (.aload_n 0, 1) := by decide +kernel
theorem dX3_readItem_41 : decode cX3_readItem 41 = .ok (.ldc 109, 2) := by decide +kernel
theorem dX3_readItem_43 : decode cX3_readItem 43 = .ok (.invokevirtual 97, 3) := by decide +kernel
theorem dX3_readItem_46 : decode cX3_readItem 46 = .ok (.ifCond .eq 14, 3) := by decide +kernel
theorem dX3_readItem_49 : decode cX3_readItem 49 = .ok (.aload_n 0, 1) := by decide +kernel
theorem dX3_readItem_50 : decode cX3_readItem 50 = .ok (.invokevirtual 111, 3) := by decide +kernel
theorem dX3_readItem_53 : decode cX3_readItem 53 = .ok (.ifCond .eq 7, 3) := by decide +kernel
theorem dX3_readItem_56 : decode cX3_readItem 56 = .ok (.iconst 1, 1) := by decide +kernel
theorem dX3_readItem_57 : decode cX3_readItem 57 = .ok (.goto 4, 3) := by decide +kernel
theorem dX3_readItem_60 : decode cX3_readItem 60 = .ok (.iconst 0, 1) := by decide +kernel
theorem dX3_readItem_61 : decode cX3_readItem 61 = .ok (.ireturn, 1) := by decide +kernel
set_option maxRecDepth 20000 in
theorem ggX3_readLight_X3_step : GoodIn wsX3_readLight wsX3_step := goodIn_r _ [10, 2, 11, 21, 22, 23, 24, 25, 26, 27, 28] (by decide +kernel) (by decide +kernel)
set_option maxRecDepth 20000 in
theorem gX3_readLight_X3_step : GoodIn wsX3_readLight (wsV RX3 60 RX3 yX3_step wsX3_step) := goodIn_app (goodIn_of _ (by decide +kernel)) ggX3_readLight_X3_step
set_option maxRecDepth 20000 in
theorem ggX3_readLight_X3_takeNumber : GoodIn wsX3_readLight wsX3_takeNumber := goodIn_r _ [15, 1, 2, 16, 17, 18, 9, 19, 20, 6, 7, 8, 10, 11, 21, 22, 23, 24, 25, 26, 27, 28] (by decide +kernel) (by decide +kernel)
set_option maxRecDepth 20000 in
theorem gX3_readLight_X3_takeNumber : GoodIn wsX3_readLight (wsV RX3 115 RX3 yX3_takeNumber wsX3_takeNumber) := goodIn_app (goodIn_of _ (by decide +kernel)) ggX3_readLight_X3_takeNumber
theorem dX3_readLight_0 : decode cX3_readLight 0 = .ok (.aload_n 0, 1) := by decide +kernel
theorem dX3_readLight_1 : decode cX3_readLight 1 = .ok (.invokevirtual 60, 3) := by decide +kernel
theorem dX3_readLight_4 : decode cX3_readLight 4 = .ok (.aload_n 0, 1) := by decide +kernel
theorem dX3_readLight_5 : decode cX3_readLight 5 = .ok (.getfield 35, 3) := by decide +kernel
theorem dX3_readLight_8 : decode cX3_readLight 8 = .ok (.aload_n 0, 1) := by decide +kernel
theorem dX3_readLight_9 : decode cX3_readLight 9 = .ok (.getfield 42, 3) := by decide +kernel
theorem dX3_readLight_12 : decode cX3_readLight 12 = .ok (.iaload, 1) := by decide +kernel
theorem dX3_readLight_13 : decode cX3_readLight 13 = .ok (.istore_n 1, 1) := by decide +kernel
theorem dX3_readLight_14 : decode cX3_readLight 14 = .ok (.aload_n 0, 1) := by decide +kernel
theorem dX3_readLight_15 : decode cX3_readLight 15 = .ok (.ldc 114, 2) := by decide +kernel
theorem dX3_readLight_17 : decode cX3_readLight 17 = .ok (.invokevirtual 115, 3) := by decide +kernel
theorem dX3_readLight_20 : decode cX3_readLight 20 = .ok (.ifCond .ne 5, 3) := by decide +kernel
theorem dX3_readLight_23 : decode cX3_readLight 23 = .ok (.iconst 0, 1) := by decide +kernel
theorem dX3_readLight_24 : decode cX3_readLight 24 = .ok (.ireturn, 1) := by decide +kernel
theorem dX3_readLight_25 : decode cX3_readLight 25 = .ok (.aload_n 0, 1) := by decide +kernel
theorem dX3_readLight_26 : decode cX3_readLight 26 = .ok (.getfield 21, 3) := by decide +kernel
theorem dX3_readLight_29 : decode cX3_readLight 29 = .ok (.iload_n 1, 1) := by decide +kernel
theorem dX3_readLight_30 : decode cX3_readLight 30 = .ok (.putfield 118, 3) := by decide +kernel
theorem dX3_readLight_33 : decode cX3_readLight 33 = .ok (.iconst 1, 1) := by decide +kernel
theorem dX3_readLight_34 : decode cX3_readLight 34 = .ok (.ireturn, 1) := by decide +kernel
set_option maxRecDepth 20000 in
theorem ggX3_readHour_X3_step : GoodIn wsX3_readHour wsX3_step := goodIn_r _ [9, 2, 10, 20, 21, 22, 23, 24, 25, 26, 27] (by decide +kernel) (by decide +kernel)
set_option maxRecDepth 20000 in
theorem gX3_readHour_X3_step : GoodIn wsX3_readHour (wsV RX3 60 RX3 yX3_step wsX3_step) := goodIn_app (goodIn_of _ (by decide +kernel)) ggX3_readHour_X3_step
set_option maxRecDepth 20000 in
theorem ggX3_readHour_X3_takeNumber : GoodIn wsX3_readHour wsX3_takeNumber := goodIn_r _ [14, 1, 2, 15, 16, 17, 8, 18, 19, 5, 6, 7, 9, 10, 20, 21, 22, 23, 24, 25, 26, 27] (by decide +kernel) (by decide +kernel)
set_option maxRecDepth 20000 in
theorem gX3_readHour_X3_takeNumber : GoodIn wsX3_readHour (wsV RX3 115 RX3 yX3_takeNumber wsX3_takeNumber) := goodIn_app (goodIn_of _ (by decide +kernel)) ggX3_readHour_X3_takeNumber
theorem dX3_readHour_0 : decode cX3_readHour 0 = .ok (.aload_n 0, 1) := by decide +kernel
theorem dX3_readHour_1 : decode cX3_readHour 1 = .ok (.invokevirtual 60, 3) := by decide +kernel
theorem dX3_readHour_4 : decode cX3_readHour 4 = .ok (.aload_n 0, 1) := by decide +kernel
theorem dX3_readHour_5 : decode cX3_readHour 5 = .ok (.getfield 35, 3) := by decide +kernel
theorem dX3_readHour_8 : decode cX3_readHour 8 = .ok (.aload_n 0, 1) := by decide +kernel
theorem dX3_readHour_9 : decode cX3_readHour 9 = .ok (.getfield 42, 3) := by decide +kernel
theorem dX3_readHour_12 : decode cX3_readHour 12 = .ok (.iaload, 1) := by decide +kernel
theorem dX3_readHour_13 : decode cX3_readHour 13 = .ok (.istore_n 1, 1) := by decide +kernel
theorem dX3_readHour_14 : decode cX3_readHour 14 = .ok (.aload_n 0, 1) := by decide +kernel
theorem dX3_readHour_15 : decode cX3_readHour 15 = .ok (.bipush 16, 2) := by decide +kernel
theorem dX3_readHour_17 : decode cX3_readHour 17 = .ok (.invokevirtual 115, 3) := by decide +kernel
theorem dX3_readHour_20 : decode cX3_readHour 20 = .ok (.ifCond .ne 5, 3) := by decide +kernel
theorem dX3_readHour_23 : decode cX3_readHour 23 = .ok (.iconst 0, 1) := by decide +kernel
theorem dX3_readHour_24 : decode cX3_readHour 24 = .ok (.ireturn, 1) := by decide +kernel
theorem dX3_readHour_25 : decode cX3_readHour 25 = .ok (.aload_n 0, 1) := by decide +kernel
theorem dX3_readHour_26 : decode cX3_readHour 26 = .ok (.getfield 21, 3) := by decide +kernel
theorem dX3_readHour_29 : decode cX3_readHour 29 = .ok (.iload_n 1, 1) := by decide +kernel
theorem dX3_readHour_30 : decode cX3_readHour 30 = .ok (.putfield 121, 3) := by decide +kernel
theorem dX3_readHour_33 : decode cX3_readHour 33 = .ok (.iconst 1, 1) := by decide +kernel
theorem dX3_readHour_34 : decode cX3_readHour 34 = .ok (.ireturn, 1) := by decide +kernel
set_option maxRecDepth 20000 in
theorem ggX3_readPerson_X1_isFull : GoodIn wsX3_readPerson wsX1_isFull := goodIn_r _ [10, 11, 121, 122, 123, 124, 125, 126, 127, 128, 129, 130, 131, 132] (by decide +kernel) (by decide +kernel)
set_option maxRecDepth 20000 in
theorem gX3_readPerson_X1_isFull : GoodIn wsX3_readPerson (wsV RX3 123 RX1 yX1_isFull wsX1_isFull) := goodIn_app (goodIn_of _ (by decide +kernel)) ggX3_readPerson_X1_isFull
set_option maxRecDepth 20000 in
theorem ggX3_readPerson_X3_kindOfWord : GoodIn wsX3_readPerson wsX3_kindOfWord := goodIn_r _ [16, 17, 18, 19, 15, 20, 21, 22, 23, 24, 25, 26, 27, 28, 29, 30, 31, 32, 33, 34, 35, 36, 37, 38, 39, 40, 41, 42, 43, 44, 45, 46, 47, 48, 49, 50, 51, 52, 53, 54, 55, 56, 57, 58, 59, 60, 61, 62, 63, 64, 65, 66, 67, 68, 69, 70, 71, 72, 73, 74, 75, 76, 77, 78, 79, 80, 81, 82, 83, 84, 85, 113, 114, 115, 116, 117, 118, 119, 120, 133, 134] (by decide +kernel) (by decide +kernel)
set_option maxRecDepth 20000 in
theorem gX3_readPerson_X3_kindOfWord : GoodIn wsX3_readPerson (wsV RX3 88 RX3 yX3_kindOfWord wsX3_kindOfWord) := goodIn_app (goodIn_of _ (by decide +kernel)) ggX3_readPerson_X3_kindOfWord
set_option maxRecDepth 20000 in
theorem ggX3_readPerson_X1_add : GoodIn wsX3_readPerson wsX1_add := goodIn_r _ [89, 90, 11, 91, 92, 93, 94, 95, 7, 8, 9, 10, 121, 122, 123, 124, 125, 126, 127, 128, 129, 130, 131, 132] (by decide +kernel) (by decide +kernel)
set_option maxRecDepth 20000 in
theorem gX3_readPerson_X1_add : GoodIn wsX3_readPerson (wsV RX3 126 RX1 yX1_add wsX1_add) := goodIn_app (goodIn_of _ (by decide +kernel)) ggX3_readPerson_X1_add
set_option maxRecDepth 20000 in
theorem ggX3_readPerson_X3_step : GoodIn wsX3_readPerson wsX3_step := goodIn_r _ [99, 22, 100, 113, 114, 115, 116, 117, 118, 119, 120] (by decide +kernel) (by decide +kernel)
set_option maxRecDepth 20000 in
theorem gX3_readPerson_X3_step : GoodIn wsX3_readPerson (wsV RX3 60 RX3 yX3_step wsX3_step) := goodIn_app (goodIn_of _ (by decide +kernel)) ggX3_readPerson_X3_step
set_option maxRecDepth 20000 in
theorem ggX3_readPerson_X3_readTrait : GoodIn wsX3_readPerson wsX3_readTrait := goodIn_r _ [104, 105, 22, 17, 18, 19, 15, 20, 21, 23, 24, 25, 26, 27, 28, 29, 30, 31, 32, 33, 34, 35, 36, 37, 38, 39, 40, 41, 42, 43, 44, 45, 46, 47, 48, 49, 50, 51, 52, 53, 54, 55, 56, 57, 58, 59, 60, 61, 62, 63, 64, 65, 66, 67, 68, 69, 70, 71, 72, 73, 74, 75, 76, 77, 78, 79, 80, 81, 82, 83, 84, 85, 96, 97, 98, 99, 100, 106, 107, 108, 109, 110, 111, 112, 113, 114, 115, 116, 117, 118, 119, 120, 133, 134] (by decide +kernel) (by decide +kernel)
set_option maxRecDepth 20000 in
theorem gX3_readPerson_X3_readTrait : GoodIn wsX3_readPerson (wsV RX3 133 RX3 yX3_readTrait wsX3_readTrait) := goodIn_app (goodIn_of _ (by decide +kernel)) ggX3_readPerson_X3_readTrait
theorem dX3_readPerson_0 : decode cX3_readPerson 0 = .ok (.aload_n 0, 1) := by decide +kernel
theorem dX3_readPerson_1 : decode cX3_readPerson 1 = .ok (.getfield 21, 3) := by decide +kernel
theorem dX3_readPerson_4 : decode cX3_readPerson 4 = .ok (.invokevirtual 123, 3) := by decide +kernel
theorem dX3_readPerson_7 : decode cX3_readPerson 7 = .ok (.ifCond .eq 5, 3) := by decide +kernel
theorem dX3_readPerson_10 : decode cX3_readPerson 10 = .ok (.iconst 0, 1) := by decide +kernel
theorem dX3_readPerson_11 : decode cX3_readPerson 11 = .ok (.ireturn, 1) := by decide +kernel
theorem dX3_readPerson_12 : decode cX3_readPerson 12 = .ok (.aload_n 0, 1) := by decide +kernel
theorem dX3_readPerson_13 : decode cX3_readPerson 13 = .ok (.getfield 21, 3) := by decide +kernel
theorem dX3_readPerson_16 : decode cX3_readPerson 16 = .ok (.aload_n 0, 1) := by decide +kernel
theorem dX3_readPerson_17 : decode cX3_readPerson 17 = .ok (.invokevirtual 88, 3) := by decide +kernel
theorem dX3_readPerson_20 : decode cX3_readPerson 20 = .ok (.invokevirtual 126, 3) := by decide +kernel
theorem dX3_readPerson_23 : decode cX3_readPerson 23 = .ok (.istore_n 1, 1) := by decide +kernel
theorem dX3_readPerson_24 : decode cX3_readPerson 24 = .ok (.aload_n 0, 1) := by decide +kernel
theorem dX3_readPerson_25 : decode cX3_readPerson 25 = .ok (.invokevirtual 60, 3) := by decide +kernel
theorem dX3_readPerson_28 : decode cX3_readPerson 28 = .ok (.aload_n 0, 1) := by decide +kernel
theorem dX3_readPerson_29 : decode cX3_readPerson 29 = .ok (.ldc 129, 2) := by decide +kernel
theorem dX3_readPerson_31 : decode cX3_readPerson 31 = .ok (.aload_n 0, 1) := by decide +kernel
theorem dX3_readPerson_32 : decode cX3_readPerson 32 = .ok (.getfield 21, 3) := by decide +kernel
theorem dX3_readPerson_35 : decode cX3_readPerson 35 = .ok (.getfield 131, 3) := by decide +kernel
theorem dX3_readPerson_38 : decode cX3_readPerson 38 = .ok (.iload_n 1, 1) := by decide +kernel
theorem dX3_readPerson_39 : decode cX3_readPerson 39 = .ok (.bipush 99, 2) := by decide +kernel
theorem dX3_readPerson_41 : decode cX3_readPerson 41 = .ok (.invokevirtual 133, 3) := by decide +kernel
theorem dX3_readPerson_44 : decode cX3_readPerson 44 = .ok (.ifCond .eq 45, 3) := by decide +kernel
theorem dX3_readPerson_47 : decode cX3_readPerson 47 = .ok (.aload_n 0, 1) := by decide +kernel
theorem dX3_readPerson_48 : decode cX3_readPerson 48 = .ok (.ldc 137, 2) := by decide +kernel
theorem dX3_readPerson_50 : decode cX3_readPerson 50 = .ok (.aload_n 0, 1) := by decide +kernel
theorem dX3_readPerson_51 : decode cX3_readPerson 51 = .ok (.getfield 21, 3) := by decide +kernel
theorem dX3_readPerson_54 : decode cX3_readPerson 54 = .ok (.getfield 139, 3) := by decide +kernel
theorem dX3_readPerson_57 : decode cX3_readPerson 57 = .ok (.iload_n 1, 1) := by decide +kernel
theorem dX3_readPerson_58 : decode cX3_readPerson 58 = .ok (.bipush 9, 2) := by decide +kernel
theorem dX3_readPerson_60 : decode cX3_readPerson 60 = .ok (.invokevirtual 133, 3) := by decide +kernel
theorem dX3_readPerson_63 : decode cX3_readPerson 63 = .ok (.ifCond .eq 26, 3) := by decide +kernel
theorem dX3_readPerson_66 : decode cX3_readPerson 66 = .ok (.aload_n 0, 1) := by decide +kernel
theorem dX3_readPerson_67 : decode cX3_readPerson 67 = .ok (.ldc 141, 2) := by decide +kernel
theorem dX3_readPerson_69 : decode cX3_readPerson 69 = .ok (.aload_n 0, 1) := by decide +kernel
theorem dX3_readPerson_70 : decode cX3_readPerson 70 = .ok (.getfield 21, 3) := by decide +kernel
theorem dX3_readPerson_73 : decode cX3_readPerson 73 = .ok (.getfield 143, 3) := by decide +kernel
theorem dX3_readPerson_76 : decode cX3_readPerson 76 = .ok (.iload_n 1, 1) := by decide +kernel
theorem dX3_readPerson_77 : decode cX3_readPerson 77 = .ok (.ldc 114, 2) := by decide +kernel
theorem dX3_readPerson_79 : decode cX3_readPerson 79 = .ok (.invokevirtual 133, 3) := by decide +kernel
theorem dX3_readPerson_82 : decode cX3_readPerson 82 = .ok (.ifCond .eq 7, 3) := by decide +kernel
theorem dX3_readPerson_85 : decode cX3_readPerson 85 = .ok (.iconst 1, 1) := by decide +kernel
theorem dX3_readPerson_86 : decode cX3_readPerson 86 = .ok (.goto 4, 3) := by decide +kernel
theorem dX3_readPerson_89 : decode cX3_readPerson 89 = .ok (.iconst 0, 1) := by decide +kernel
theorem dX3_readPerson_90 : decode cX3_readPerson 90 = .ok (.ireturn, 1) := by decide +kernel
set_option maxRecDepth 20000 in
theorem ggX3_readTrait_X3_isWord : GoodIn wsX3_readTrait wsX3_isWord := goodIn_r _ [7, 8, 2, 9, 10, 11, 12, 13, 6, 14, 15, 16, 17, 18, 19, 20, 21, 22, 23, 24, 25, 26, 27, 28, 29, 30, 31, 32, 33, 34, 35, 36, 37, 38, 39, 40, 41, 42, 43, 44, 45, 46, 47, 48, 49, 50, 51, 52, 53, 54, 55, 56, 57, 58, 59, 60, 61, 62, 63, 64, 65, 66, 67, 68, 69, 70, 71, 84, 85, 86, 87, 88, 89, 90, 91, 92, 93] (by decide +kernel) (by decide +kernel)
set_option maxRecDepth 20000 in
theorem gX3_readTrait_X3_isWord : GoodIn wsX3_readTrait (wsV RX3 97 RX3 yX3_isWord wsX3_isWord) := goodIn_app (goodIn_of _ (by decide +kernel)) ggX3_readTrait_X3_isWord
set_option maxRecDepth 20000 in
theorem ggX3_readTrait_X3_step : GoodIn wsX3_readTrait wsX3_step := goodIn_r _ [75, 2, 76, 84, 85, 86, 87, 88, 89, 90, 91] (by decide +kernel) (by decide +kernel)
set_option maxRecDepth 20000 in
theorem gX3_readTrait_X3_step : GoodIn wsX3_readTrait (wsV RX3 60 RX3 yX3_step wsX3_step) := goodIn_app (goodIn_of _ (by decide +kernel)) ggX3_readTrait_X3_step
set_option maxRecDepth 20000 in
theorem ggX3_readTrait_X3_takeNumber : GoodIn wsX3_readTrait wsX3_takeNumber := goodIn_r _ [80, 1, 2, 11, 12, 13, 6, 14, 15, 72, 73, 74, 75, 76, 84, 85, 86, 87, 88, 89, 90, 91] (by decide +kernel) (by decide +kernel)
set_option maxRecDepth 20000 in
theorem gX3_readTrait_X3_takeNumber : GoodIn wsX3_readTrait (wsV RX3 115 RX3 yX3_takeNumber wsX3_takeNumber) := goodIn_app (goodIn_of _ (by decide +kernel)) ggX3_readTrait_X3_takeNumber
set_option maxRecDepth 20000 in
theorem ggX3_readTrait_X7_isWithin : GoodIn wsX3_readTrait wsX7_isWithin := goodIn_r _ [83] (by decide +kernel) (by decide +kernel)
set_option maxRecDepth 20000 in
theorem gX3_readTrait_X7_isWithin_n145 : GoodIn wsX3_readTrait (wsX7_isWithin) := ggX3_readTrait_X7_isWithin
theorem dX3_readTrait_0 : decode cX3_readTrait 0 = .ok (.aload_n 0, 1) := by decide +kernel
theorem dX3_readTrait_1 : decode cX3_readTrait 1 = .ok (.aload_n 1, 1) := by decide +kernel
theorem dX3_readTrait_2 : decode cX3_readTrait 2 = .ok (.invokevirtual 97, 3) := by decide +kernel
theorem dX3_readTrait_5 : decode cX3_readTrait 5 = .ok (.ifCond .ne 5, 3) := by decide +kernel
theorem dX3_readTrait_8 : decode cX3_readTrait 8 = .ok (.iconst 1, 1) := by decide +kernel
theorem dX3_readTrait_9 : decode cX3_readTrait 9 = .ok (.ireturn, 1) := by decide +kernel
theorem dX3_readTrait_10 : decode cX3_readTrait 10 = .ok (.aload_n 0, 1) := by decide +kernel
theorem dX3_readTrait_11 : decode cX3_readTrait 11 = .ok (.invokevirtual 60, 3) := by decide +kernel
theorem dX3_readTrait_14 : decode cX3_readTrait 14 = .ok (.aload_n 0, 1) := by decide +kernel
theorem dX3_readTrait_15 : decode cX3_readTrait 15 = .ok (.getfield 35, 3) := by decide +kernel
theorem dX3_readTrait_18 : decode cX3_readTrait 18 = .ok (.aload_n 0, 1) := by decide +kernel
theorem dX3_readTrait_19 : decode cX3_readTrait 19 = .ok (.getfield 42, 3) := by decide +kernel
theorem dX3_readTrait_22 : decode cX3_readTrait 22 = .ok (.iaload, 1) := by decide +kernel
theorem dX3_readTrait_23 : decode cX3_readTrait 23 = .ok (.istore 5, 2) := by decide +kernel
theorem dX3_readTrait_25 : decode cX3_readTrait 25 = .ok (.aload_n 0, 1) := by decide +kernel
theorem dX3_readTrait_26 : decode cX3_readTrait 26 = .ok (.iload 4, 2) := by decide +kernel
theorem dX3_readTrait_28 : decode cX3_readTrait 28 = .ok (.invokevirtual 115, 3) := by decide +kernel
theorem dX3_readTrait_31 : decode cX3_readTrait 31 = .ok (.ifCond .eq 14, 3) := by decide +kernel
theorem dX3_readTrait_34 : decode cX3_readTrait 34 = .ok (.iload_n 3, 1) := by decide +kernel
theorem dX3_readTrait_35 : decode cX3_readTrait 35 = .ok (.aload_n 2, 1) := by decide +kernel
theorem dX3_readTrait_36 : decode cX3_readTrait 36 = .ok (.arraylength, 1) := by decide +kernel
theorem dX3_readTrait_37 : decode cX3_readTrait 37 = .ok (.iconst 1, 1) := by decide +kernel
theorem dX3_readTrait_38 : decode cX3_readTrait 38 = .ok (.isub, 1) := by decide +kernel
theorem dX3_readTrait_39 : decode cX3_readTrait 39 = .ok (.invokestatic 145, 3) := by decide +kernel
theorem dX3_readTrait_42 : decode cX3_readTrait 42 = .ok (.ifCond .ne 5, 3) := by decide +kernel
theorem dX3_readTrait_45 : decode cX3_readTrait 45 = .ok (.iconst 0, 1) := by decide +kernel
theorem dX3_readTrait_46 : decode cX3_readTrait 46 = .ok (.ireturn, 1) := by decide +kernel
theorem dX3_readTrait_47 : decode cX3_readTrait 47 = .ok (.aload_n 2, 1) := by decide +kernel
theorem dX3_readTrait_48 : decode cX3_readTrait 48 = .ok (.iload_n 3, 1) := by decide +kernel
theorem dX3_readTrait_49 : decode cX3_readTrait 49 = .ok (.iload 5, 2) := by decide +kernel
theorem dX3_readTrait_51 : decode cX3_readTrait 51 = .ok (.iastore, 1) := by decide +kernel
theorem dX3_readTrait_52 : decode cX3_readTrait 52 = .ok (.iconst 1, 1) := by decide +kernel
theorem dX3_readTrait_53 : decode cX3_readTrait 53 = .ok (.ireturn, 1) := by decide +kernel
set_option maxRecDepth 20000 in
theorem ggX3_readShare_X3_step : GoodIn wsX3_readShare wsX3_step := goodIn_r _ [9, 2, 10, 39, 40, 41, 42, 43, 44, 45, 46] (by decide +kernel) (by decide +kernel)
set_option maxRecDepth 20000 in
theorem gX3_readShare_X3_step : GoodIn wsX3_readShare (wsV RX3 60 RX3 yX3_step wsX3_step) := goodIn_app (goodIn_of _ (by decide +kernel)) ggX3_readShare_X3_step
set_option maxRecDepth 20000 in
theorem ggX3_readShare_X3_takeNumber : GoodIn wsX3_readShare wsX3_takeNumber := goodIn_r _ [14, 1, 2, 15, 16, 17, 8, 18, 19, 5, 6, 7, 9, 10, 39, 40, 41, 42, 43, 44, 45, 46] (by decide +kernel) (by decide +kernel)
set_option maxRecDepth 20000 in
theorem gX3_readShare_X3_takeNumber : GoodIn wsX3_readShare (wsV RX3 115 RX3 yX3_takeNumber wsX3_takeNumber) := goodIn_app (goodIn_of _ (by decide +kernel)) ggX3_readShare_X3_takeNumber
set_option maxRecDepth 20000 in
theorem ggX3_readShare_X1_join : GoodIn wsX3_readShare wsX1_join := goodIn_r _ [24, 25, 26, 27, 28, 23, 29, 30, 31, 32, 33, 34, 35, 36, 37, 38, 47, 48, 49, 50, 51, 52, 53, 54, 55, 56, 57, 58] (by decide +kernel) (by decide +kernel)
set_option maxRecDepth 20000 in
theorem gX3_readShare_X1_join : GoodIn wsX3_readShare (wsV RX3 152 RX1 yX1_join wsX1_join) := goodIn_app (goodIn_of _ (by decide +kernel)) ggX3_readShare_X1_join
theorem dX3_readShare_0 : decode cX3_readShare 0 = .ok (.aload_n 0, 1) := by decide +kernel
theorem dX3_readShare_1 : decode cX3_readShare 1 = .ok (.invokevirtual 60, 3) := by decide +kernel
theorem dX3_readShare_4 : decode cX3_readShare 4 = .ok (.aload_n 0, 1) := by decide +kernel
theorem dX3_readShare_5 : decode cX3_readShare 5 = .ok (.getfield 35, 3) := by decide +kernel
theorem dX3_readShare_8 : decode cX3_readShare 8 = .ok (.aload_n 0, 1) := by decide +kernel
theorem dX3_readShare_9 : decode cX3_readShare 9 = .ok (.getfield 42, 3) := by decide +kernel
theorem dX3_readShare_12 : decode cX3_readShare 12 = .ok (.iaload, 1) := by decide +kernel
theorem dX3_readShare_13 : decode cX3_readShare 13 = .ok (.istore_n 1, 1) := by decide +kernel
theorem dX3_readShare_14 : decode cX3_readShare 14 = .ok (.aload_n 0, 1) := by decide +kernel
theorem dX3_readShare_15 : decode cX3_readShare 15 = .ok (.aload_n 0, 1) := by decide +kernel
theorem dX3_readShare_16 : decode cX3_readShare 16 = .ok (.getfield 21, 3) := by decide +kernel
theorem dX3_readShare_19 : decode cX3_readShare 19 = .ok (.getfield 149, 3) := by decide +kernel
theorem dX3_readShare_22 : decode cX3_readShare 22 = .ok (.iconst 1, 1) := by decide +kernel
theorem dX3_readShare_23 : decode cX3_readShare 23 = .ok (.isub, 1) := by decide +kernel
theorem dX3_readShare_24 : decode cX3_readShare 24 = .ok (.invokevirtual 115, 3) := by decide +kernel
theorem dX3_readShare_27 : decode cX3_readShare 27 = .ok (.ifCond .ne 5, 3) := by decide +kernel
theorem dX3_readShare_30 : decode cX3_readShare 30 = .ok (.iconst 0, 1) := by decide +kernel
theorem dX3_readShare_31 : decode cX3_readShare 31 = .ok (.ireturn, 1) := by decide +kernel
theorem dX3_readShare_32 : decode cX3_readShare 32 = .ok (.aload_n 0, 1) := by decide +kernel
theorem dX3_readShare_33 : decode cX3_readShare 33 = .ok (.getfield 35, 3) := by decide +kernel
theorem dX3_readShare_36 : decode cX3_readShare 36 = .ok (.aload_n 0, 1) := by decide +kernel
theorem dX3_readShare_37 : decode cX3_readShare 37 = .ok (.getfield 42, 3) := by decide +kernel
theorem dX3_readShare_40 : decode cX3_readShare 40 = .ok (.iaload, 1) := by decide +kernel
theorem dX3_readShare_41 : decode cX3_readShare 41 = .ok (.istore_n 2, 1) := by decide +kernel
theorem dX3_readShare_42 : decode cX3_readShare 42 = .ok (.iload_n 2, 1) := by decide +kernel
theorem dX3_readShare_43 : decode cX3_readShare 43 = .ok (.iload_n 1, 1) := by decide +kernel
theorem dX3_readShare_44 : decode cX3_readShare 44 = .ok (.if_icmp .eq 19, 3) := by decide +kernel
theorem dX3_readShare_47 : decode cX3_readShare 47 = .ok (.aload_n 0, 1) := by decide +kernel
theorem dX3_readShare_48 : decode cX3_readShare 48 = .ok (.aload_n 0, 1) := by decide +kernel
theorem dX3_readShare_49 : decode cX3_readShare 49 = .ok (.getfield 21, 3) := by decide +kernel
theorem dX3_readShare_52 : decode cX3_readShare 52 = .ok (.getfield 149, 3) := by decide +kernel
theorem dX3_readShare_55 : decode cX3_readShare 55 = .ok (.iconst 1, 1) := by decide +kernel
