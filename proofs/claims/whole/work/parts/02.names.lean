/-! ===== BEGIN words of one list among another's, by their places ===== -/
theorem goodIn_r {big : List Cond} (ws : List Cond) (ps : List Nat) (hp : ws = ps.filterMap (fun i => big[i]?)) (h : ws.all goodWord = true) : GoodIn big ws := by
  intro w hw
  have h1 := List.all_eq_true.mp h w hw
  rw [hp] at hw
  obtain ⟨i, -, hi⟩ := List.mem_filterMap.mp hw
  have hm : w ∈ big := by first | exact List.mem_of_getElem? hi | exact List.getElem?_mem hi
  exact ⟨hm, good_of_word h1⟩
theorem goodIn_app {big a b : List Cond} (ha : GoodIn big a) (hb : GoodIn big b) : GoodIn big (a ++ b) := fun w h => (List.mem_append.mp h).elim (ha w) (hb w)
theorem goodIn_ca {big a b : List Cond} {c : Cond} (ha : GoodIn big (c :: a)) (hb : GoodIn big b) : GoodIn big (c :: (a ++ b)) := fun w h => (List.mem_cons.mp h).elim (fun e => ha w (List.mem_cons.mpr (Or.inl e))) (fun h => (List.mem_append.mp h).elim (fun h => ha w (List.mem_cons.mpr (Or.inr h))) (hb w))
theorem goodIn_sub {big ws : List Cond} (hm : ∀ w ∈ ws, w ∈ big) (h : ws.all goodWord = true) : GoodIn big ws := fun w hw => ⟨hm w hw, good_of_word (List.all_eq_true.mp h w hw)⟩
/-! ===== END ===== -/

/-! ===== BEGIN printed: names, fields, word lists, decode rows ===== -/
def RX0 : String := "EqualPlain$History"
def TX0 : u_T := fun k => match k with
  | 0 => ("EqualPlain$History", "ways", "[I", true)
  | 1 => ("EqualPlain$History", "even", "[I", true)
  | _ => ("EqualPlain$History", "size", "I", false)
def tyX0 : Nat → FieldType := fun k => match k with
  | 0 => .array .int
  | 1 => .array .int
  | _ => .int
abbrev wsX00 : List Cond := u_ws RX0 TX0 3
theorem nmX0 : ∀ a, a < 3 → ∀ b, b < 3 → a ≠ b → (TX0 a).2.1 ≠ (TX0 b).2.1 := by decide +kernel
theorem tyX0_ok : ∀ k, k < 3 → parseFieldDescriptor (TX0 k).2.2.1 = some (tyX0 k) := by decide +kernel
abbrev cX0_init : ByteArray := prog_2_method_1_code
def yX0_init : MethodName := ⟨RX0, "<init>", "()V"⟩
abbrev cX0_tell : ByteArray := prog_2_method_2_code
def yX0_tell : MethodName := ⟨RX0, "tell", "(LEqualPlain$Houses;I)I"⟩
abbrev cX0_lastOne : ByteArray := prog_2_method_3_code
def yX0_lastOne : MethodName := ⟨RX0, "lastOne", "()I"⟩
abbrev cX0_prepare : ByteArray := prog_2_method_4_code
def yX0_prepare : MethodName := ⟨RX0, "prepare", "(LEqualPlain$Houses;)V"⟩
abbrev cX0_waysOf : ByteArray := prog_2_method_5_code
def yX0_waysOf : MethodName := ⟨RX0, "waysOf", "(II)I"⟩
abbrev cX0_fits : ByteArray := prog_2_method_6_code
def yX0_fits : MethodName := ⟨RX0, "fits", "(II)Z"⟩
def RX1 : String := "EqualPlain$Houses"
def TX1 : u_T := fun k => match k with
  | 0 => ("EqualPlain$Houses", "size", "I", false)
  | 1 => ("EqualPlain$Houses", "kinds", "[I", true)
  | 2 => ("EqualPlain$Houses", "homes", "[I", true)
  | _ => ("EqualPlain$Houses", "fars", "[I", true)
def tyX1 : Nat → FieldType := fun k => match k with
  | 0 => .int
  | 1 => .array .int
  | 2 => .array .int
  | _ => .array .int
abbrev wsX10 : List Cond := u_ws RX1 TX1 4
theorem nmX1 : ∀ a, a < 4 → ∀ b, b < 4 → a ≠ b → (TX1 a).2.1 ≠ (TX1 b).2.1 := by decide +kernel
theorem tyX1_ok : ∀ k, k < 4 → parseFieldDescriptor (TX1 k).2.2.1 = some (tyX1 k) := by decide +kernel
abbrev cX1_init : ByteArray := prog_3_method_1_code
def yX1_init : MethodName := ⟨RX1, "<init>", "()V"⟩
abbrev cX1_size : ByteArray := prog_3_method_2_code
def yX1_size : MethodName := ⟨RX1, "size", "()I"⟩
abbrev cX1_isFull : ByteArray := prog_3_method_3_code
def yX1_isFull : MethodName := ⟨RX1, "isFull", "()Z"⟩
abbrev cX1_has : ByteArray := prog_3_method_4_code
def yX1_has : MethodName := ⟨RX1, "has", "(I)Z"⟩
abbrev cX1_kindOf : ByteArray := prog_3_method_5_code
def yX1_kindOf : MethodName := ⟨RX1, "kindOf", "(I)I"⟩
abbrev cX1_homeOf : ByteArray := prog_3_method_6_code
def yX1_homeOf : MethodName := ⟨RX1, "homeOf", "(I)I"⟩
abbrev cX1_put : ByteArray := prog_3_method_7_code
def yX1_put : MethodName := ⟨RX1, "put", "(II)V"⟩
abbrev cX1_burnLast : ByteArray := prog_3_method_8_code
def yX1_burnLast : MethodName := ⟨RX1, "burnLast", "()V"⟩
abbrev cX1_become : ByteArray := prog_3_method_9_code
def yX1_become : MethodName := ⟨RX1, "become", "(II)V"⟩
abbrev cX1_allBecome : ByteArray := prog_3_method_10_code
def yX1_allBecome : MethodName := ⟨RX1, "allBecome", "(I)V"⟩
abbrev cX1_move : ByteArray := prog_3_method_11_code
def yX1_move : MethodName := ⟨RX1, "move", "(II)V"⟩
abbrev cX1_becomeAs : ByteArray := prog_3_method_12_code
def yX1_becomeAs : MethodName := ⟨RX1, "becomeAs", "(LEqualPlain$Houses;)V"⟩
abbrev cX1_stands : ByteArray := prog_3_method_13_code
def yX1_stands : MethodName := ⟨RX1, "stands", "(I)Z"⟩
abbrev cX1_farOf : ByteArray := prog_3_method_14_code
def yX1_farOf : MethodName := ⟨RX1, "farOf", "(II)I"⟩
abbrev cX1_arePair : ByteArray := prog_3_method_15_code
def yX1_arePair : MethodName := ⟨RX1, "arePair", "(II)Z"⟩
abbrev cX1_partners : ByteArray := prog_3_method_16_code
def yX1_partners : MethodName := ⟨RX1, "partners", "(I)I"⟩
abbrev cX1_countPairs : ByteArray := prog_3_method_17_code
def yX1_countPairs : MethodName := ⟨RX1, "countPairs", "()I"⟩
abbrev cX1_measureAll : ByteArray := prog_3_method_18_code
def yX1_measureAll : MethodName := ⟨RX1, "measureAll", "(I)V"⟩
abbrev cX1_evenPairs : ByteArray := prog_3_method_19_code
def yX1_evenPairs : MethodName := ⟨RX1, "evenPairs", "(III)I"⟩
abbrev cX1_freeings : ByteArray := prog_3_method_20_code
def yX1_freeings : MethodName := ⟨RX1, "freeings", "(I)I"⟩
abbrev cX1_isFree : ByteArray := prog_3_method_21_code
def yX1_isFree : MethodName := ⟨RX1, "isFree", "(I)Z"⟩
abbrev cX1_isFreeWithout : ByteArray := prog_3_method_22_code
def yX1_isFreeWithout : MethodName := ⟨RX1, "isFreeWithout", "(II)Z"⟩
abbrev cX1_firstPair : ByteArray := prog_3_method_23_code
def yX1_firstPair : MethodName := ⟨RX1, "firstPair", "(I)I"⟩
abbrev cX1_countFree : ByteArray := prog_3_method_24_code
def yX1_countFree : MethodName := ⟨RX1, "countFree", "()I"⟩
abbrev cX1_countFreeByOne : ByteArray := prog_3_method_25_code
def yX1_countFreeByOne : MethodName := ⟨RX1, "countFreeByOne", "()I"⟩
abbrev cX1_isEvenWith : ByteArray := prog_3_method_26_code
def yX1_isEvenWith : MethodName := ⟨RX1, "isEvenWith", "(III)Z"⟩
def RX2 : String := "EqualPlain$Kinds"
def TX2 : u_T := fun k => match k with
  | _ => ("", "", "", false)
def tyX2 : Nat → FieldType := fun k => match k with
  | _ => .int
abbrev wsX20 : List Cond := u_ws RX2 TX2 0
theorem nmX2 : ∀ a, a < 0 → ∀ b, b < 0 → a ≠ b → (TX2 a).2.1 ≠ (TX2 b).2.1 := by decide +kernel
theorem tyX2_ok : ∀ k, k < 0 → parseFieldDescriptor (TX2 k).2.2.1 = some (tyX2 k) := by decide +kernel
abbrev cX2_measure : ByteArray := prog_4_method_2_code
def yX2_measure : MethodName := ⟨RX2, "measure", "(III)I"⟩
abbrev cX2_accepts : ByteArray := prog_4_method_3_code
def yX2_accepts : MethodName := ⟨RX2, "accepts", "(IIII)Z"⟩
abbrev cX2_isPair : ByteArray := prog_4_method_4_code
def yX2_isPair : MethodName := ⟨RX2, "isPair", "(IIII)Z"⟩
abbrev cX2_costs : ByteArray := prog_4_method_5_code
def yX2_costs : MethodName := ⟨RX2, "costs", "(I)I"⟩
abbrev cX2_above : ByteArray := prog_4_method_6_code
def yX2_above : MethodName := ⟨RX2, "above", "(I)I"⟩
abbrev cX2_isUnder : ByteArray := prog_4_method_7_code
def yX2_isUnder : MethodName := ⟨RX2, "isUnder", "(II)Z"⟩
abbrev cX2_word : ByteArray := prog_4_method_8_code
def yX2_word : MethodName := ⟨RX2, "word", "(I)Ljava/lang/String;"⟩
def RX3 : String := "EqualPlain$Ladder"
def TX3 : u_T := fun k => match k with
  | 0 => ("EqualPlain$Ladder", "free", "[Z", true)
  | 1 => ("EqualPlain$Ladder", "near", "[Z", true)
  | 2 => ("EqualPlain$Ladder", "first", "I", false)
  | _ => ("EqualPlain$Ladder", "second", "I", false)
def tyX3 : Nat → FieldType := fun k => match k with
  | 0 => .array .boolean
  | 1 => .array .boolean
  | 2 => .int
  | _ => .int
abbrev wsX30 : List Cond := u_ws RX3 TX3 4
theorem nmX3 : ∀ a, a < 4 → ∀ b, b < 4 → a ≠ b → (TX3 a).2.1 ≠ (TX3 b).2.1 := by decide +kernel
theorem tyX3_ok : ∀ k, k < 4 → parseFieldDescriptor (TX3 k).2.2.1 = some (tyX3 k) := by decide +kernel
abbrev cX3_init : ByteArray := prog_5_method_1_code
def yX3_init : MethodName := ⟨RX3, "<init>", "()V"⟩
abbrev cX3_first : ByteArray := prog_5_method_2_code
def yX3_first : MethodName := ⟨RX3, "first", "()I"⟩
abbrev cX3_second : ByteArray := prog_5_method_3_code
def yX3_second : MethodName := ⟨RX3, "second", "()I"⟩
abbrev cX3_find : ByteArray := prog_5_method_4_code
def yX3_find : MethodName := ⟨RX3, "find", "(LEqualPlain$Houses;I)I"⟩
abbrev cX3_findSecond : ByteArray := prog_5_method_5_code
def yX3_findSecond : MethodName := ⟨RX3, "findSecond", "(LEqualPlain$Houses;II)Z"⟩
def RX4 : String := "EqualPlain$Openings"
def TX4 : u_T := fun k => match k with
  | 0 => ("EqualPlain$Openings", "free", "[Z", true)
  | 1 => ("EqualPlain$Openings", "stood", "[Z", true)
  | _ => ("EqualPlain$Openings", "most", "I", false)
def tyX4 : Nat → FieldType := fun k => match k with
  | 0 => .array .boolean
  | 1 => .array .boolean
  | _ => .int
abbrev wsX40 : List Cond := u_ws RX4 TX4 3
theorem nmX4 : ∀ a, a < 3 → ∀ b, b < 3 → a ≠ b → (TX4 a).2.1 ≠ (TX4 b).2.1 := by decide +kernel
theorem tyX4_ok : ∀ k, k < 3 → parseFieldDescriptor (TX4 k).2.2.1 = some (tyX4 k) := by decide +kernel
abbrev cX4_init : ByteArray := prog_6_method_1_code
def yX4_init : MethodName := ⟨RX4, "<init>", "()V"⟩
abbrev cX4_most : ByteArray := prog_6_method_2_code
def yX4_most : MethodName := ⟨RX4, "most", "()I"⟩
abbrev cX4_find : ByteArray := prog_6_method_3_code
def yX4_find : MethodName := ⟨RX4, "find", "(LEqualPlain$Houses;I)I"⟩
abbrev cX4_countWith : ByteArray := prog_6_method_4_code
def yX4_countWith : MethodName := ⟨RX4, "countWith", "(LEqualPlain$Houses;II)I"⟩
def RX5 : String := "EqualPlain$Scribe"
def TX5 : u_T := fun k => match k with
  | 0 => ("EqualPlain$Scribe", "tape", "LEqualPlain$Tape;", true)
  | 1 => ("EqualPlain$Scribe", "into", "LEqualPlain$Town;", true)
  | 2 => ("EqualPlain$Scribe", "start", "I", false)
  | 3 => ("EqualPlain$Scribe", "end", "I", false)
  | 4 => ("EqualPlain$Scribe", "type", "I", false)
  | _ => ("EqualPlain$Scribe", "value", "I", false)
def tyX5 : Nat → FieldType := fun k => match k with
  | 0 => .object "EqualPlain$Tape"
  | 1 => .object "EqualPlain$Town"
  | 2 => .int
  | 3 => .int
  | 4 => .int
  | _ => .int
abbrev wsX50 : List Cond := u_ws RX5 TX5 6
theorem nmX5 : ∀ a, a < 6 → ∀ b, b < 6 → a ≠ b → (TX5 a).2.1 ≠ (TX5 b).2.1 := by decide +kernel
theorem tyX5_ok : ∀ k, k < 6 → parseFieldDescriptor (TX5 k).2.2.1 = some (tyX5 k) := by decide +kernel
abbrev cX5_init : ByteArray := prog_7_method_1_code
def yX5_init : MethodName := ⟨RX5, "<init>", "(LEqualPlain$Tape;LEqualPlain$Town;)V"⟩
abbrev cX5_read : ByteArray := prog_7_method_2_code
def yX5_read : MethodName := ⟨RX5, "read", "()I"⟩
abbrev cX5_isItem : ByteArray := prog_7_method_3_code
def yX5_isItem : MethodName := ⟨RX5, "isItem", "()Z"⟩
abbrev cX5_isHouseItem : ByteArray := prog_7_method_4_code
def yX5_isHouseItem : MethodName := ⟨RX5, "isHouseItem", "(I)Z"⟩
abbrev cX5_isWorthItem : ByteArray := prog_7_method_5_code
def yX5_isWorthItem : MethodName := ⟨RX5, "isWorthItem", "()Z"⟩
abbrev cX5_isCoinItem : ByteArray := prog_7_method_6_code
def yX5_isCoinItem : MethodName := ⟨RX5, "isCoinItem", "()Z"⟩
abbrev cX5_isNextWord : ByteArray := prog_7_method_7_code
def yX5_isNextWord : MethodName := ⟨RX5, "isNextWord", "(Ljava/lang/String;)Z"⟩
abbrev cX5_isNextNumber : ByteArray := prog_7_method_8_code
def yX5_isNextNumber : MethodName := ⟨RX5, "isNextNumber", "(I)Z"⟩
abbrev cX5_isWord : ByteArray := prog_7_method_9_code
def yX5_isWord : MethodName := ⟨RX5, "isWord", "(Ljava/lang/String;)Z"⟩
abbrev cX5_advance : ByteArray := prog_7_method_10_code
def yX5_advance : MethodName := ⟨RX5, "advance", "()V"⟩
abbrev cX5_isLetter : ByteArray := prog_7_method_11_code
def yX5_isLetter : MethodName := ⟨RX5, "isLetter", "(I)Z"⟩
abbrev cX5_isDigit : ByteArray := prog_7_method_12_code
def yX5_isDigit : MethodName := ⟨RX5, "isDigit", "(I)Z"⟩
def RX6 : String := "EqualPlain$Sheet"
def TX6 : u_T := fun k => match k with
  | 0 => ("EqualPlain$Sheet", "bits", "I", false)
  | 1 => ("EqualPlain$Sheet", "size", "I", false)
  | _ => ("EqualPlain$Sheet", "numbers", "[I", true)
def tyX6 : Nat → FieldType := fun k => match k with
  | 0 => .int
  | 1 => .int
  | _ => .array .int
abbrev wsX60 : List Cond := u_ws RX6 TX6 3
theorem nmX6 : ∀ a, a < 3 → ∀ b, b < 3 → a ≠ b → (TX6 a).2.1 ≠ (TX6 b).2.1 := by decide +kernel
theorem tyX6_ok : ∀ k, k < 3 → parseFieldDescriptor (TX6 k).2.2.1 = some (tyX6 k) := by decide +kernel
abbrev cX6_init : ByteArray := prog_8_method_1_code
def yX6_init : MethodName := ⟨RX6, "<init>", "()V"⟩
abbrev cX6_bits : ByteArray := prog_8_method_2_code
def yX6_bits : MethodName := ⟨RX6, "bits", "()I"⟩
abbrev cX6_isMissing : ByteArray := prog_8_method_3_code
def yX6_isMissing : MethodName := ⟨RX6, "isMissing", "()Z"⟩
abbrev cX6_size : ByteArray := prog_8_method_4_code
def yX6_size : MethodName := ⟨RX6, "size", "()I"⟩
abbrev cX6_rule : ByteArray := prog_8_method_5_code
def yX6_rule : MethodName := ⟨RX6, "rule", "(II)V"⟩
abbrev cX6_get : ByteArray := prog_8_method_6_code
def yX6_get : MethodName := ⟨RX6, "get", "(I)I"⟩
abbrev cX6_set : ByteArray := prog_8_method_7_code
def yX6_set : MethodName := ⟨RX6, "set", "(II)V"⟩
abbrev cX6_holds : ByteArray := prog_8_method_8_code
def yX6_holds : MethodName := ⟨RX6, "holds", "(II)Z"⟩
abbrev cX6_take : ByteArray := prog_8_method_9_code
def yX6_take : MethodName := ⟨RX6, "take", "(ILEqualPlain$Sheet;II)V"⟩
def RX7 : String := "EqualPlain$Spread"
def TX7 : u_T := fun k => match k with
  | 0 => ("EqualPlain$Spread", "had", "[Z", true)
  | 1 => ("EqualPlain$Spread", "putUp", "[I", true)
  | _ => ("EqualPlain$Spread", "size", "I", false)
def tyX7 : Nat → FieldType := fun k => match k with
  | 0 => .array .boolean
  | 1 => .array .int
  | _ => .int
abbrev wsX70 : List Cond := u_ws RX7 TX7 3
theorem nmX7 : ∀ a, a < 3 → ∀ b, b < 3 → a ≠ b → (TX7 a).2.1 ≠ (TX7 b).2.1 := by decide +kernel
theorem tyX7_ok : ∀ k, k < 3 → parseFieldDescriptor (TX7 k).2.2.1 = some (tyX7 k) := by decide +kernel
abbrev cX7_init : ByteArray := prog_9_method_1_code
def yX7_init : MethodName := ⟨RX7, "<init>", "()V"⟩
abbrev cX7_isHad : ByteArray := prog_9_method_2_code
def yX7_isHad : MethodName := ⟨RX7, "isHad", "(I)Z"⟩
abbrev cX7_reach : ByteArray := prog_9_method_3_code
def yX7_reach : MethodName := ⟨RX7, "reach", "(LEqualPlain$Houses;)I"⟩
abbrev cX7_add : ByteArray := prog_9_method_4_code
def yX7_add : MethodName := ⟨RX7, "add", "(I)V"⟩
abbrev cX7_isOpenedBy : ByteArray := prog_9_method_5_code
def yX7_isOpenedBy : MethodName := ⟨RX7, "isOpenedBy", "(LEqualPlain$Houses;II)Z"⟩
def RX8 : String := "EqualPlain$Tape"
def TX8 : u_T := fun k => match k with
  | 0 => ("EqualPlain$Tape", "bytes", "[B", true)
  | _ => ("EqualPlain$Tape", "size", "I", false)
def tyX8 : Nat → FieldType := fun k => match k with
  | 0 => .array .byte
  | _ => .int
abbrev wsX80 : List Cond := u_ws RX8 TX8 2
theorem nmX8 : ∀ a, a < 2 → ∀ b, b < 2 → a ≠ b → (TX8 a).2.1 ≠ (TX8 b).2.1 := by decide +kernel
theorem tyX8_ok : ∀ k, k < 2 → parseFieldDescriptor (TX8 k).2.2.1 = some (tyX8 k) := by decide +kernel
abbrev cX8_init : ByteArray := prog_10_method_1_code
def yX8_init : MethodName := ⟨RX8, "<init>", "()V"⟩
abbrev cX8_size : ByteArray := prog_10_method_2_code
def yX8_size : MethodName := ⟨RX8, "size", "()I"⟩
abbrev cX8_put : ByteArray := prog_10_method_3_code
def yX8_put : MethodName := ⟨RX8, "put", "(I)V"⟩
abbrev cX8_empty : ByteArray := prog_10_method_4_code
def yX8_empty : MethodName := ⟨RX8, "empty", "()V"⟩
abbrev cX8_at : ByteArray := prog_10_method_5_code
def yX8_at : MethodName := ⟨RX8, "at", "(I)I"⟩
def RX9 : String := "EqualPlain$Town"
def TX9 : u_T := fun k => match k with
  | 0 => ("EqualPlain$Town", "houses", "LEqualPlain$Houses;", true)
  | 1 => ("EqualPlain$Town", "worth", "[I", true)
  | 2 => ("EqualPlain$Town", "spots", "[I", true)
  | 3 => ("EqualPlain$Town", "purse", "I", false)
  | 4 => ("EqualPlain$Town", "age", "I", false)
  | _ => ("EqualPlain$Town", "luck", "I", false)
def tyX9 : Nat → FieldType := fun k => match k with
  | 0 => .object "EqualPlain$Houses"
  | 1 => .array .int
  | 2 => .array .int
  | 3 => .int
  | 4 => .int
  | _ => .int
abbrev wsX90 : List Cond := u_ws RX9 TX9 6
theorem nmX9 : ∀ a, a < 6 → ∀ b, b < 6 → a ≠ b → (TX9 a).2.1 ≠ (TX9 b).2.1 := by decide +kernel
theorem tyX9_ok : ∀ k, k < 6 → parseFieldDescriptor (TX9 k).2.2.1 = some (tyX9 k) := by decide +kernel
abbrev cX9_init : ByteArray := prog_11_method_1_code
def yX9_init : MethodName := ⟨RX9, "<init>", "()V"⟩
abbrev cX9_houses : ByteArray := prog_11_method_2_code
def yX9_houses : MethodName := ⟨RX9, "houses", "()LEqualPlain$Houses;"⟩
abbrev cX9_purse : ByteArray := prog_11_method_3_code
def yX9_purse : MethodName := ⟨RX9, "purse", "()I"⟩
abbrev cX9_setPurse : ByteArray := prog_11_method_4_code
def yX9_setPurse : MethodName := ⟨RX9, "setPurse", "(I)V"⟩
abbrev cX9_age : ByteArray := prog_11_method_5_code
def yX9_age : MethodName := ⟨RX9, "age", "()I"⟩
abbrev cX9_luck : ByteArray := prog_11_method_6_code
def yX9_luck : MethodName := ⟨RX9, "luck", "()I"⟩
abbrev cX9_setLuck : ByteArray := prog_11_method_7_code
def yX9_setLuck : MethodName := ⟨RX9, "setLuck", "(I)V"⟩
abbrev cX9_worthOf : ByteArray := prog_11_method_8_code
def yX9_worthOf : MethodName := ⟨RX9, "worthOf", "(I)I"⟩
abbrev cX9_setWorth : ByteArray := prog_11_method_9_code
def yX9_setWorth : MethodName := ⟨RX9, "setWorth", "(II)V"⟩
abbrev cX9_allWorth : ByteArray := prog_11_method_10_code
def yX9_allWorth : MethodName := ⟨RX9, "allWorth", "()I"⟩
abbrev cX9_worthLost : ByteArray := prog_11_method_11_code
def yX9_worthLost : MethodName := ⟨RX9, "worthLost", "(I)I"⟩
abbrev cX9_spotOf : ByteArray := prog_11_method_12_code
def yX9_spotOf : MethodName := ⟨RX9, "spotOf", "(I)I"⟩
abbrev cX9_setSpot : ByteArray := prog_11_method_13_code
def yX9_setSpot : MethodName := ⟨RX9, "setSpot", "(II)V"⟩
abbrev cX9_filledSpots : ByteArray := prog_11_method_14_code
def yX9_filledSpots : MethodName := ⟨RX9, "filledSpots", "()I"⟩
abbrev cX9_becomeAs : ByteArray := prog_11_method_15_code
def yX9_becomeAs : MethodName := ⟨RX9, "becomeAs", "(LEqualPlain$Town;)V"⟩
abbrev cX9_allows : ByteArray := prog_11_method_16_code
def yX9_allows : MethodName := ⟨RX9, "allows", "(II)Z"⟩
abbrev cX9_raise : ByteArray := prog_11_method_17_code
def yX9_raise : MethodName := ⟨RX9, "raise", "(II)V"⟩
abbrev cX9_draw : ByteArray := prog_11_method_18_code
def yX9_draw : MethodName := ⟨RX9, "draw", "()I"⟩
abbrev cX9_pass : ByteArray := prog_11_method_19_code
def yX9_pass : MethodName := ⟨RX9, "pass", "(I)I"⟩
abbrev cX9_strewOne : ByteArray := prog_11_method_20_code
def yX9_strewOne : MethodName := ⟨RX9, "strewOne", "()V"⟩
def RX10 : String := "EqualPlain"
def TX10 : u_T := fun k => match k with
  | 0 => ("EqualPlain", "town", "LEqualPlain$Town;", true)
  | 1 => ("EqualPlain", "kept", "LEqualPlain$Town;", true)
  | 2 => ("EqualPlain", "isKept", "Z", false)
  | 3 => ("EqualPlain", "trial", "LEqualPlain$Town;", true)
  | 4 => ("EqualPlain", "tape", "LEqualPlain$Tape;", true)
  | 5 => ("EqualPlain", "sheets", "[LEqualPlain$Sheet;", true)
  | 6 => ("EqualPlain", "told", "[I", true)
  | 7 => ("EqualPlain", "spread", "LEqualPlain$Spread;", true)
  | 8 => ("EqualPlain", "ladder", "LEqualPlain$Ladder;", true)
  | 9 => ("EqualPlain", "openings", "LEqualPlain$Openings;", true)
  | _ => ("EqualPlain", "history", "LEqualPlain$History;", true)
def tyX10 : Nat → FieldType := fun k => match k with
  | 0 => .object "EqualPlain$Town"
  | 1 => .object "EqualPlain$Town"
  | 2 => .boolean
  | 3 => .object "EqualPlain$Town"
  | 4 => .object "EqualPlain$Tape"
  | 5 => .array (.object "EqualPlain$Sheet")
  | 6 => .array .int
  | 7 => .object "EqualPlain$Spread"
  | 8 => .object "EqualPlain$Ladder"
  | 9 => .object "EqualPlain$Openings"
  | _ => .object "EqualPlain$History"
abbrev wsX100 : List Cond := u_ws RX10 TX10 11
theorem nmX10 : ∀ a, a < 11 → ∀ b, b < 11 → a ≠ b → (TX10 a).2.1 ≠ (TX10 b).2.1 := by decide +kernel
theorem tyX10_ok : ∀ k, k < 11 → parseFieldDescriptor (TX10 k).2.2.1 = some (tyX10 k) := by decide +kernel
abbrev cX10_init : ByteArray := prog_1_method_1_code
def yX10_init : MethodName := ⟨RX10, "<init>", "()V"⟩
abbrev cX10_grace : ByteArray := prog_1_method_2_code
def yX10_grace : MethodName := ⟨RX10, "grace", "(III)I"⟩
abbrev cX10_build : ByteArray := prog_1_method_3_code
def yX10_build : MethodName := ⟨RX10, "build", "(III)I"⟩
abbrev cX10_of : ByteArray := prog_1_method_4_code
def yX10_of : MethodName := ⟨RX10, "of", "(II)I"⟩
abbrev cX10_change : ByteArray := prog_1_method_5_code
def yX10_change : MethodName := ⟨RX10, "change", "(II)I"⟩
abbrev cX10_fire : ByteArray := prog_1_method_6_code
def yX10_fire : MethodName := ⟨RX10, "fire", "()I"⟩
abbrev cX10_worth : ByteArray := prog_1_method_7_code
def yX10_worth : MethodName := ⟨RX10, "worth", "(III)I"⟩
abbrev cX10_coin : ByteArray := prog_1_method_8_code
def yX10_coin : MethodName := ⟨RX10, "coin", "(I)I"⟩
abbrev cX10_far : ByteArray := prog_1_method_9_code
def yX10_far : MethodName := ⟨RX10, "far", "(III)I"⟩
abbrev cX10_pairs : ByteArray := prog_1_method_10_code
def yX10_pairs : MethodName := ⟨RX10, "pairs", "(II)I"⟩
abbrev cX10_pair : ByteArray := prog_1_method_11_code
def yX10_pair : MethodName := ⟨RX10, "pair", "(II)I"⟩
abbrev cX10_row : ByteArray := prog_1_method_12_code
def yX10_row : MethodName := ⟨RX10, "row", "(I)I"⟩
abbrev cX10_lots : ByteArray := prog_1_method_13_code
def yX10_lots : MethodName := ⟨RX10, "lots", "(I)I"⟩
abbrev cX10_only : ByteArray := prog_1_method_14_code
def yX10_only : MethodName := ⟨RX10, "only", "(I)I"⟩
abbrev cX10_ever : ByteArray := prog_1_method_15_code
def yX10_ever : MethodName := ⟨RX10, "ever", "(I)I"⟩
abbrev cX10_sum : ByteArray := prog_1_method_16_code
def yX10_sum : MethodName := ⟨RX10, "sum", "()I"⟩
abbrev cX10_best : ByteArray := prog_1_method_17_code
def yX10_best : MethodName := ⟨RX10, "best", "()I"⟩
abbrev cX10_loses : ByteArray := prog_1_method_18_code
def yX10_loses : MethodName := ⟨RX10, "loses", "(I)I"⟩
abbrev cX10_dear : ByteArray := prog_1_method_19_code
def yX10_dear : MethodName := ⟨RX10, "dear", "(I)I"⟩
abbrev cX10_dearest : ByteArray := prog_1_method_20_code
def yX10_dearest : MethodName := ⟨RX10, "dearest", "()I"⟩
abbrev cX10_keepers : ByteArray := prog_1_method_21_code
def yX10_keepers : MethodName := ⟨RX10, "keepers", "(II)I"⟩
abbrev cX10_kindFor : ByteArray := prog_1_method_22_code
def yX10_kindFor : MethodName := ⟨RX10, "kindFor", "(I)I"⟩
abbrev cX10_law : ByteArray := prog_1_method_23_code
def yX10_law : MethodName := ⟨RX10, "law", "()I"⟩
abbrev cX10_huts : ByteArray := prog_1_method_24_code
def yX10_huts : MethodName := ⟨RX10, "huts", "(II)I"⟩
abbrev cX10_hut : ByteArray := prog_1_method_25_code
def yX10_hut : MethodName := ⟨RX10, "hut", "(III)I"⟩
abbrev cX10_opens : ByteArray := prog_1_method_26_code
def yX10_opens : MethodName := ⟨RX10, "opens", "(I)I"⟩
abbrev cX10_opened : ByteArray := prog_1_method_27_code
def yX10_opened : MethodName := ⟨RX10, "opened", "(I)I"⟩
abbrev cX10_orders : ByteArray := prog_1_method_28_code
def yX10_orders : MethodName := ⟨RX10, "orders", "()I"⟩
abbrev cX10_founders : ByteArray := prog_1_method_29_code
def yX10_founders : MethodName := ⟨RX10, "founders", "(I)I"⟩
abbrev cX10_latest : ByteArray := prog_1_method_30_code
def yX10_latest : MethodName := ⟨RX10, "latest", "()I"⟩
abbrev cX10_years : ByteArray := prog_1_method_31_code
def yX10_years : MethodName := ⟨RX10, "years", "(I)I"⟩
abbrev cX10_ahead : ByteArray := prog_1_method_32_code
def yX10_ahead : MethodName := ⟨RX10, "ahead", "(II)I"⟩
abbrev cX10_when : ByteArray := prog_1_method_33_code
def yX10_when : MethodName := ⟨RX10, "when", "()I"⟩
abbrev cX10_strew : ByteArray := prog_1_method_34_code
def yX10_strew : MethodName := ⟨RX10, "strew", "(I)I"⟩
abbrev cX10_seed : ByteArray := prog_1_method_35_code
def yX10_seed : MethodName := ⟨RX10, "seed", "(I)I"⟩
abbrev cX10_feed : ByteArray := prog_1_method_36_code
def yX10_feed : MethodName := ⟨RX10, "feed", "(II)I"⟩
abbrev cX10_wipe : ByteArray := prog_1_method_37_code
def yX10_wipe : MethodName := ⟨RX10, "wipe", "()I"⟩
abbrev cX10_text : ByteArray := prog_1_method_38_code
def yX10_text : MethodName := ⟨RX10, "text", "()I"⟩
abbrev cX10_hold : ByteArray := prog_1_method_39_code
def yX10_hold : MethodName := ⟨RX10, "hold", "(II)I"⟩
abbrev cX10_as : ByteArray := prog_1_method_40_code
def yX10_as : MethodName := ⟨RX10, "as", "(II)I"⟩
abbrev cX10_sheet : ByteArray := prog_1_method_41_code
def yX10_sheet : MethodName := ⟨RX10, "sheet", "(III)I"⟩
abbrev cX10_write : ByteArray := prog_1_method_42_code
def yX10_write : MethodName := ⟨RX10, "write", "(III)I"⟩
abbrev cX10_copy : ByteArray := prog_1_method_43_code
def yX10_copy : MethodName := ⟨RX10, "copy", "(IIIII)I"⟩
abbrev cX10_load : ByteArray := prog_1_method_44_code
def yX10_load : MethodName := ⟨RX10, "load", "(I)I"⟩
abbrev cX10_judge : ByteArray := prog_1_method_45_code
def yX10_judge : MethodName := ⟨RX10, "judge", "(I)I"⟩
abbrev cX10_image : ByteArray := prog_1_method_46_code
def yX10_image : MethodName := ⟨RX10, "image", "()I"⟩
abbrev cX10_undo : ByteArray := prog_1_method_47_code
def yX10_undo : MethodName := ⟨RX10, "undo", "()I"⟩
abbrev cX10_tear : ByteArray := prog_1_method_48_code
def yX10_tear : MethodName := ⟨RX10, "tear", "()I"⟩
abbrev cX10_count : ByteArray := prog_1_method_49_code
def yX10_count : MethodName := ⟨RX10, "count", "(I)I"⟩
abbrev cX10_status : ByteArray := prog_1_method_50_code
def yX10_status : MethodName := ⟨RX10, "status", "(I)I"⟩
abbrev cX10_finding : ByteArray := prog_1_method_51_code
def yX10_finding : MethodName := ⟨RX10, "finding", "(I)I"⟩
abbrev cX10_isKind : ByteArray := prog_1_method_52_code
def yX10_isKind : MethodName := ⟨RX10, "isKind", "(I)Z"⟩
abbrev cX10_isPlace : ByteArray := prog_1_method_53_code
def yX10_isPlace : MethodName := ⟨RX10, "isPlace", "(I)Z"⟩
abbrev cX10_isLot : ByteArray := prog_1_method_54_code
def yX10_isLot : MethodName := ⟨RX10, "isLot", "(II)Z"⟩
abbrev cX10_lotOf : ByteArray := prog_1_method_55_code
def yX10_lotOf : MethodName := ⟨RX10, "lotOf", "(II)I"⟩
abbrev cX10_isSpot : ByteArray := prog_1_method_56_code
def yX10_isSpot : MethodName := ⟨RX10, "isSpot", "(I)Z"⟩
abbrev cX10_sheetAt : ByteArray := prog_1_method_57_code
def yX10_sheetAt : MethodName := ⟨RX10, "sheetAt", "(I)LEqualPlain$Sheet;"⟩
def RX11 : String := "EqualPlainModel"
def TX11 : u_T := fun k => match k with
  | 0 => ("EqualPlainModel", "many", "I", false)
  | 1 => ("EqualPlainModel", "kind", "[I", true)
  | 2 => ("EqualPlainModel", "lot", "[I", true)
  | 3 => ("EqualPlainModel", "worth", "[I", true)
  | 4 => ("EqualPlainModel", "spot", "[I", true)
  | 5 => ("EqualPlainModel", "coin", "I", false)
  | 6 => ("EqualPlainModel", "year", "I", false)
  | 7 => ("EqualPlainModel", "z", "I", false)
  | 8 => ("EqualPlainModel", "isKept", "Z", false)
  | 9 => ("EqualPlainModel", "keptMany", "I", false)
  | 10 => ("EqualPlainModel", "keptKind", "[I", true)
  | 11 => ("EqualPlainModel", "keptLot", "[I", true)
  | 12 => ("EqualPlainModel", "keptWorth", "[I", true)
  | 13 => ("EqualPlainModel", "keptSpot", "[I", true)
  | 14 => ("EqualPlainModel", "keptCoin", "I", false)
  | 15 => ("EqualPlainModel", "keptYear", "I", false)
  | 16 => ("EqualPlainModel", "keptZ", "I", false)
  | 17 => ("EqualPlainModel", "tape", "[I", true)
  | 18 => ("EqualPlainModel", "taped", "I", false)
  | 19 => ("EqualPlainModel", "found", "[I", true)
  | 20 => ("EqualPlainModel", "away", "[I", true)
  | 21 => ("EqualPlainModel", "isEver", "[Z", true)
  | 22 => ("EqualPlainModel", "kindsBefore", "[I", true)
  | 23 => ("EqualPlainModel", "firstHut", "I", false)
  | 24 => ("EqualPlainModel", "secondHut", "I", false)
  | 25 => ("EqualPlainModel", "openedBy", "I", false)
  | 26 => ("EqualPlainModel", "ways", "[I", true)
  | 27 => ("EqualPlainModel", "wasMany", "I", false)
  | 28 => ("EqualPlainModel", "wasCoin", "I", false)
  | 29 => ("EqualPlainModel", "wasYear", "I", false)
  | 30 => ("EqualPlainModel", "wasZ", "I", false)
  | 31 => ("EqualPlainModel", "from", "I", false)
  | 32 => ("EqualPlainModel", "to", "I", false)
  | 33 => ("EqualPlainModel", "isWrong", "Z", false)
  | 34 => ("EqualPlainModel", "worthBefore", "[I", true)
  | 35 => ("EqualPlainModel", "bitsOf", "[I", true)
  | 36 => ("EqualPlainModel", "sizeOf", "[I", true)
  | 37 => ("EqualPlainModel", "number", "[I", true)
  | _ => ("EqualPlainModel", "moved", "[I", true)
def tyX11 : Nat → FieldType := fun k => match k with
  | 0 => .int
  | 1 => .array .int
  | 2 => .array .int
  | 3 => .array .int
  | 4 => .array .int
  | 5 => .int
  | 6 => .int
  | 7 => .int
  | 8 => .boolean
  | 9 => .int
  | 10 => .array .int
  | 11 => .array .int
  | 12 => .array .int
  | 13 => .array .int
  | 14 => .int
  | 15 => .int
  | 16 => .int
  | 17 => .array .int
  | 18 => .int
  | 19 => .array .int
  | 20 => .array .int
  | 21 => .array .boolean
  | 22 => .array .int
  | 23 => .int
  | 24 => .int
  | 25 => .int
  | 26 => .array .int
  | 27 => .int
  | 28 => .int
  | 29 => .int
  | 30 => .int
  | 31 => .int
  | 32 => .int
  | 33 => .boolean
  | 34 => .array .int
  | 35 => .array .int
  | 36 => .array .int
  | 37 => .array .int
  | _ => .array .int
abbrev wsX110 : List Cond := u_ws RX11 TX11 39
theorem nmX11 : ∀ a, a < 39 → ∀ b, b < 39 → a ≠ b → (TX11 a).2.1 ≠ (TX11 b).2.1 := by decide +kernel
theorem tyX11_ok : ∀ k, k < 39 → parseFieldDescriptor (TX11 k).2.2.1 = some (tyX11 k) := by decide +kernel
abbrev cX11_init : ByteArray := prog_13_method_1_code
def yX11_init : MethodName := ⟨RX11, "<init>", "()V"⟩
abbrev cX11_finding : ByteArray := prog_13_method_2_code
def yX11_finding : MethodName := ⟨RX11, "finding", "(I)I"⟩
abbrev cX11_within : ByteArray := prog_13_method_3_code
def yX11_within : MethodName := ⟨RX11, "within", "(III)Z"⟩
abbrev cX11_isHouse : ByteArray := prog_13_method_4_code
def yX11_isHouse : MethodName := ⟨RX11, "isHouse", "(I)Z"⟩
abbrev cX11_isLot : ByteArray := prog_13_method_5_code
def yX11_isLot : MethodName := ⟨RX11, "isLot", "(II)Z"⟩
abbrev cX11_isKind : ByteArray := prog_13_method_6_code
def yX11_isKind : MethodName := ⟨RX11, "isKind", "(I)Z"⟩
abbrev cX11_above : ByteArray := prog_13_method_7_code
def yX11_above : MethodName := ⟨RX11, "above", "(I)I"⟩
abbrev cX11_isUnder : ByteArray := prog_13_method_8_code
def yX11_isUnder : MethodName := ⟨RX11, "isUnder", "(II)Z"⟩
abbrev cX11_costs : ByteArray := prog_13_method_9_code
def yX11_costs : MethodName := ⟨RX11, "costs", "(I)I"⟩
abbrev cX11_farOf : ByteArray := prog_13_method_10_code
def yX11_farOf : MethodName := ⟨RX11, "farOf", "(III)I"⟩
abbrev cX11_counts : ByteArray := prog_13_method_11_code
def yX11_counts : MethodName := ⟨RX11, "counts", "(II)Z"⟩
abbrev cX11_arePair : ByteArray := prog_13_method_12_code
def yX11_arePair : MethodName := ⟨RX11, "arePair", "(II)Z"⟩
abbrev cX11_houseOn : ByteArray := prog_13_method_13_code
def yX11_houseOn : MethodName := ⟨RX11, "houseOn", "(I)I"⟩
abbrev cX11_pairBy : ByteArray := prog_13_method_14_code
def yX11_pairBy : MethodName := ⟨RX11, "pairBy", "(III)I"⟩
abbrev cX11_isFree : ByteArray := prog_13_method_15_code
def yX11_isFree : MethodName := ⟨RX11, "isFree", "(I)Z"⟩
abbrev cX11_isFreeWithout : ByteArray := prog_13_method_16_code
def yX11_isFreeWithout : MethodName := ⟨RX11, "isFreeWithout", "(II)Z"⟩
abbrev cX11_freeLots : ByteArray := prog_13_method_17_code
def yX11_freeLots : MethodName := ⟨RX11, "freeLots", "()I"⟩
abbrev cX11_put : ByteArray := prog_13_method_18_code
def yX11_put : MethodName := ⟨RX11, "put", "(II)V"⟩
abbrev cX11_grace : ByteArray := prog_13_method_19_code
def yX11_grace : MethodName := ⟨RX11, "grace", "(III)I"⟩
abbrev cX11_builds : ByteArray := prog_13_method_20_code
def yX11_builds : MethodName := ⟨RX11, "builds", "(II)V"⟩
abbrev cX11_build : ByteArray := prog_13_method_21_code
def yX11_build : MethodName := ⟨RX11, "build", "(III)I"⟩
abbrev cX11_pairsOf : ByteArray := prog_13_method_22_code
def yX11_pairsOf : MethodName := ⟨RX11, "pairsOf", "(I)I"⟩
abbrev cX11_of : ByteArray := prog_13_method_23_code
def yX11_of : MethodName := ⟨RX11, "of", "(II)I"⟩
abbrev cX11_change : ByteArray := prog_13_method_24_code
def yX11_change : MethodName := ⟨RX11, "change", "(II)I"⟩
abbrev cX11_fire : ByteArray := prog_13_method_25_code
def yX11_fire : MethodName := ⟨RX11, "fire", "()I"⟩
abbrev cX11_worth : ByteArray := prog_13_method_26_code
def yX11_worth : MethodName := ⟨RX11, "worth", "(III)I"⟩
abbrev cX11_coin : ByteArray := prog_13_method_27_code
def yX11_coin : MethodName := ⟨RX11, "coin", "(I)I"⟩
abbrev cX11_far : ByteArray := prog_13_method_28_code
def yX11_far : MethodName := ⟨RX11, "far", "(III)I"⟩
abbrev cX11_howManyPairs : ByteArray := prog_13_method_29_code
def yX11_howManyPairs : MethodName := ⟨RX11, "howManyPairs", "(I)I"⟩
abbrev cX11_pairs : ByteArray := prog_13_method_30_code
def yX11_pairs : MethodName := ⟨RX11, "pairs", "(II)I"⟩
abbrev cX11_pair : ByteArray := prog_13_method_31_code
def yX11_pair : MethodName := ⟨RX11, "pair", "(II)I"⟩
abbrev cX11_isSo : ByteArray := prog_13_method_32_code
def yX11_isSo : MethodName := ⟨RX11, "isSo", "(II)Z"⟩
abbrev cX11_inRow : ByteArray := prog_13_method_33_code
def yX11_inRow : MethodName := ⟨RX11, "inRow", "(II)I"⟩
abbrev cX11_row : ByteArray := prog_13_method_34_code
def yX11_row : MethodName := ⟨RX11, "row", "(I)I"⟩
abbrev cX11_findEver : ByteArray := prog_13_method_35_code
def yX11_findEver : MethodName := ⟨RX11, "findEver", "()V"⟩
abbrev cX11_lots : ByteArray := prog_13_method_36_code
def yX11_lots : MethodName := ⟨RX11, "lots", "(I)I"⟩
abbrev cX11_only : ByteArray := prog_13_method_37_code
def yX11_only : MethodName := ⟨RX11, "only", "(I)I"⟩
abbrev cX11_ever : ByteArray := prog_13_method_38_code
def yX11_ever : MethodName := ⟨RX11, "ever", "(I)I"⟩
abbrev cX11_sum : ByteArray := prog_13_method_39_code
def yX11_sum : MethodName := ⟨RX11, "sum", "()I"⟩
abbrev cX11_best : ByteArray := prog_13_method_40_code
def yX11_best : MethodName := ⟨RX11, "best", "()I"⟩
abbrev cX11_lossOf : ByteArray := prog_13_method_41_code
def yX11_lossOf : MethodName := ⟨RX11, "lossOf", "(IZ)I"⟩
abbrev cX11_loses : ByteArray := prog_13_method_42_code
def yX11_loses : MethodName := ⟨RX11, "loses", "(I)I"⟩
abbrev cX11_dear : ByteArray := prog_13_method_43_code
def yX11_dear : MethodName := ⟨RX11, "dear", "(I)I"⟩
abbrev cX11_dearest : ByteArray := prog_13_method_44_code
def yX11_dearest : MethodName := ⟨RX11, "dearest", "()I"⟩
abbrev cX11_keepers : ByteArray := prog_13_method_45_code
def yX11_keepers : MethodName := ⟨RX11, "keepers", "(II)I"⟩
abbrev cX11_kindFor : ByteArray := prog_13_method_46_code
def yX11_kindFor : MethodName := ⟨RX11, "kindFor", "(I)I"⟩
abbrev cX11_law : ByteArray := prog_13_method_47_code
def yX11_law : MethodName := ⟨RX11, "law", "()I"⟩
abbrev cX11_isFreeByOne : ByteArray := prog_13_method_48_code
def yX11_isFreeByOne : MethodName := ⟨RX11, "isFreeByOne", "(I)Z"⟩
abbrev cX11_hutsFor : ByteArray := prog_13_method_49_code
def yX11_hutsFor : MethodName := ⟨RX11, "hutsFor", "(I)I"⟩
abbrev cX11_huts : ByteArray := prog_13_method_50_code
def yX11_huts : MethodName := ⟨RX11, "huts", "(II)I"⟩
abbrev cX11_hut : ByteArray := prog_13_method_51_code
def yX11_hut : MethodName := ⟨RX11, "hut", "(III)I"⟩
abbrev cX11_opensFor : ByteArray := prog_13_method_52_code
def yX11_opensFor : MethodName := ⟨RX11, "opensFor", "(I)I"⟩
abbrev cX11_lacksToOpen : ByteArray := prog_13_method_53_code
def yX11_lacksToOpen : MethodName := ⟨RX11, "lacksToOpen", "(I)I"⟩
abbrev cX11_opens : ByteArray := prog_13_method_54_code
def yX11_opens : MethodName := ⟨RX11, "opens", "(I)I"⟩
abbrev cX11_opened : ByteArray := prog_13_method_55_code
def yX11_opened : MethodName := ⟨RX11, "opened", "(I)I"⟩
abbrev cX11_isFreeBy : ByteArray := prog_13_method_56_code
def yX11_isFreeBy : MethodName := ⟨RX11, "isFreeBy", "(II)Z"⟩
abbrev cX11_bits : ByteArray := prog_13_method_57_code
def yX11_bits : MethodName := ⟨RX11, "bits", "(I)I"⟩
abbrev cX11_findWays : ByteArray := prog_13_method_58_code
def yX11_findWays : MethodName := ⟨RX11, "findWays", "(I)V"⟩
abbrev cX11_orders : ByteArray := prog_13_method_59_code
def yX11_orders : MethodName := ⟨RX11, "orders", "()I"⟩
abbrev cX11_founders : ByteArray := prog_13_method_60_code
def yX11_founders : MethodName := ⟨RX11, "founders", "(I)I"⟩
abbrev cX11_latest : ByteArray := prog_13_method_61_code
def yX11_latest : MethodName := ⟨RX11, "latest", "()I"⟩
abbrev cX11_draw : ByteArray := prog_13_method_62_code
def yX11_draw : MethodName := ⟨RX11, "draw", "()I"⟩
abbrev cX11_aYear : ByteArray := prog_13_method_63_code
def yX11_aYear : MethodName := ⟨RX11, "aYear", "()Z"⟩
abbrev cX11_years : ByteArray := prog_13_method_64_code
def yX11_years : MethodName := ⟨RX11, "years", "(I)I"⟩
abbrev cX11_marks : ByteArray := prog_13_method_65_code
def yX11_marks : MethodName := ⟨RX11, "marks", "()V"⟩
abbrev cX11_goesBack : ByteArray := prog_13_method_66_code
def yX11_goesBack : MethodName := ⟨RX11, "goesBack", "()V"⟩
abbrev cX11_ahead : ByteArray := prog_13_method_67_code
def yX11_ahead : MethodName := ⟨RX11, "ahead", "(II)I"⟩
abbrev cX11_when : ByteArray := prog_13_method_68_code
def yX11_when : MethodName := ⟨RX11, "when", "()I"⟩
abbrev cX11_strew : ByteArray := prog_13_method_69_code
def yX11_strew : MethodName := ⟨RX11, "strew", "(I)I"⟩
abbrev cX11_seed : ByteArray := prog_13_method_70_code
def yX11_seed : MethodName := ⟨RX11, "seed", "(I)I"⟩
abbrev cX11_feed : ByteArray := prog_13_method_71_code
def yX11_feed : MethodName := ⟨RX11, "feed", "(II)I"⟩
abbrev cX11_wipe : ByteArray := prog_13_method_72_code
def yX11_wipe : MethodName := ⟨RX11, "wipe", "()I"⟩
abbrev cX11_isByte : ByteArray := prog_13_method_73_code
def yX11_isByte : MethodName := ⟨RX11, "isByte", "(III)Z"⟩
abbrev cX11_next : ByteArray := prog_13_method_74_code
def yX11_next : MethodName := ⟨RX11, "next", "()V"⟩
abbrev cX11_isWord : ByteArray := prog_13_method_75_code
def yX11_isWord : MethodName := ⟨RX11, "isWord", "(Ljava/lang/String;)Z"⟩
abbrev cX11_takes : ByteArray := prog_13_method_76_code
def yX11_takes : MethodName := ⟨RX11, "takes", "(Ljava/lang/String;)Z"⟩
abbrev cX11_wants : ByteArray := prog_13_method_77_code
def yX11_wants : MethodName := ⟨RX11, "wants", "(Ljava/lang/String;)V"⟩
abbrev cX11_numberHere : ByteArray := prog_13_method_78_code
def yX11_numberHere : MethodName := ⟨RX11, "numberHere", "()I"⟩
abbrev cX11_number : ByteArray := prog_13_method_79_code
def yX11_number : MethodName := ⟨RX11, "number", "(I)I"⟩
abbrev cX11_wordOf : ByteArray := prog_13_method_80_code
def yX11_wordOf : MethodName := ⟨RX11, "wordOf", "(I)Ljava/lang/String;"⟩
abbrev cX11_kindHere : ByteArray := prog_13_method_81_code
def yX11_kindHere : MethodName := ⟨RX11, "kindHere", "()I"⟩
abbrev cX11_houseTold : ByteArray := prog_13_method_82_code
def yX11_houseTold : MethodName := ⟨RX11, "houseTold", "(I)V"⟩
abbrev cX11_worthTold : ByteArray := prog_13_method_83_code
def yX11_worthTold : MethodName := ⟨RX11, "worthTold", "()V"⟩
abbrev cX11_item : ByteArray := prog_13_method_84_code
def yX11_item : MethodName := ⟨RX11, "item", "()V"⟩
abbrev cX11_text : ByteArray := prog_13_method_85_code
def yX11_text : MethodName := ⟨RX11, "text", "()I"⟩
abbrev cX11_hold : ByteArray := prog_13_method_86_code
def yX11_hold : MethodName := ⟨RX11, "hold", "(II)I"⟩
abbrev cX11_as : ByteArray := prog_13_method_87_code
def yX11_as : MethodName := ⟨RX11, "as", "(II)I"⟩
abbrev cX11_isSheet : ByteArray := prog_13_method_88_code
def yX11_isSheet : MethodName := ⟨RX11, "isSheet", "(I)Z"⟩
abbrev cX11_cut : ByteArray := prog_13_method_89_code
def yX11_cut : MethodName := ⟨RX11, "cut", "(II)I"⟩
abbrev cX11_sheet : ByteArray := prog_13_method_90_code
def yX11_sheet : MethodName := ⟨RX11, "sheet", "(III)I"⟩
abbrev cX11_lacks : ByteArray := prog_13_method_91_code
def yX11_lacks : MethodName := ⟨RX11, "lacks", "(I)I"⟩
abbrev cX11_write : ByteArray := prog_13_method_92_code
def yX11_write : MethodName := ⟨RX11, "write", "(III)I"⟩
abbrev cX11_copy : ByteArray := prog_13_method_93_code
def yX11_copy : MethodName := ⟨RX11, "copy", "(IIIII)I"⟩
abbrev cX11_load : ByteArray := prog_13_method_94_code
def yX11_load : MethodName := ⟨RX11, "load", "(I)I"⟩
abbrev cX11_judge : ByteArray := prog_13_method_95_code
def yX11_judge : MethodName := ⟨RX11, "judge", "(I)I"⟩
abbrev cX11_row_ : ByteArray := prog_13_method_96_code
def yX11_row_ : MethodName := ⟨RX11, "row", "([I[II)V"⟩
abbrev cX11_image : ByteArray := prog_13_method_97_code
def yX11_image : MethodName := ⟨RX11, "image", "()I"⟩
abbrev cX11_undo : ByteArray := prog_13_method_98_code
def yX11_undo : MethodName := ⟨RX11, "undo", "()I"⟩
abbrev cX11_tear : ByteArray := prog_13_method_99_code
def yX11_tear : MethodName := ⟨RX11, "tear", "()I"⟩
abbrev cX11_allPairs : ByteArray := prog_13_method_100_code
def yX11_allPairs : MethodName := ⟨RX11, "allPairs", "()I"⟩
abbrev cX11_allWorth : ByteArray := prog_13_method_101_code
def yX11_allWorth : MethodName := ⟨RX11, "allWorth", "()I"⟩
abbrev cX11_holding : ByteArray := prog_13_method_102_code
def yX11_holding : MethodName := ⟨RX11, "holding", "()I"⟩
abbrev cX11_count : ByteArray := prog_13_method_103_code
def yX11_count : MethodName := ⟨RX11, "count", "(I)I"⟩
abbrev cX11_status : ByteArray := prog_13_method_104_code
def yX11_status : MethodName := ⟨RX11, "status", "(I)I"⟩
def RJx145de : String := "java/io/Serializable"
def TJx145de : u_T := fun k => match k with
  | _ => ("", "", "", false)
def tyJx145de : Nat → FieldType := fun k => match k with
  | _ => .int
abbrev wsJx145de0 : List Cond := u_ws RJx145de TJx145de 0
theorem nmJx145de : ∀ a, a < 0 → ∀ b, b < 0 → a ≠ b → (TJx145de a).2.1 ≠ (TJx145de b).2.1 := by decide +kernel
theorem tyJx145de_ok : ∀ k, k < 0 → parseFieldDescriptor (TJx145de k).2.2.1 = some (tyJx145de k) := by decide +kernel
def RJx9f9b0 : String := "java/lang/CharSequence"
def TJx9f9b0 : u_T := fun k => match k with
  | _ => ("", "", "", false)
def tyJx9f9b0 : Nat → FieldType := fun k => match k with
  | _ => .int
abbrev wsJx9f9b00 : List Cond := u_ws RJx9f9b0 TJx9f9b0 0
theorem nmJx9f9b0 : ∀ a, a < 0 → ∀ b, b < 0 → a ≠ b → (TJx9f9b0 a).2.1 ≠ (TJx9f9b0 b).2.1 := by decide +kernel
theorem tyJx9f9b0_ok : ∀ k, k < 0 → parseFieldDescriptor (TJx9f9b0 k).2.2.1 = some (tyJx9f9b0 k) := by decide +kernel
def RJxb160c : String := "java/lang/Comparable"
def TJxb160c : u_T := fun k => match k with
  | _ => ("", "", "", false)
def tyJxb160c : Nat → FieldType := fun k => match k with
  | _ => .int
abbrev wsJxb160c0 : List Cond := u_ws RJxb160c TJxb160c 0
theorem nmJxb160c : ∀ a, a < 0 → ∀ b, b < 0 → a ≠ b → (TJxb160c a).2.1 ≠ (TJxb160c b).2.1 := by decide +kernel
theorem tyJxb160c_ok : ∀ k, k < 0 → parseFieldDescriptor (TJxb160c k).2.2.1 = some (tyJxb160c k) := by decide +kernel
def RJ6 : String := "java/lang/Integer"
def TJ6 : u_T := fun k => match k with
  | _ => ("", "", "", false)
def tyJ6 : Nat → FieldType := fun k => match k with
  | _ => .int
abbrev wsJ60 : List Cond := u_ws RJ6 TJ6 0
theorem nmJ6 : ∀ a, a < 0 → ∀ b, b < 0 → a ≠ b → (TJ6 a).2.1 ≠ (TJ6 b).2.1 := by decide +kernel
theorem tyJ6_ok : ∀ k, k < 0 → parseFieldDescriptor (TJ6 k).2.2.1 = some (tyJ6 k) := by decide +kernel
abbrev cJ6_bitCount_0f7a4 : ByteArray := prog_14_method_49_code
def yJ6_bitCount_0f7a4 : MethodName := ⟨RJ6, "bitCount", "(I)I"⟩
def RJ9 : String := "java/lang/Math"
def TJ9 : u_T := fun k => match k with
  | _ => ("", "", "", false)
def tyJ9 : Nat → FieldType := fun k => match k with
  | _ => .int
abbrev wsJ90 : List Cond := u_ws RJ9 TJ9 0
theorem nmJ9 : ∀ a, a < 0 → ∀ b, b < 0 → a ≠ b → (TJ9 a).2.1 ≠ (TJ9 b).2.1 := by decide +kernel
theorem tyJ9_ok : ∀ k, k < 0 → parseFieldDescriptor (TJ9 k).2.2.1 = some (tyJ9 k) := by decide +kernel
abbrev cJ9_abs_0f7a4 : ByteArray := prog_15_method_59_code
def yJ9_abs_0f7a4 : MethodName := ⟨RJ9, "abs", "(I)I"⟩
abbrev cJ9_min_7cf53 : ByteArray := prog_15_method_69_code
def yJ9_min_7cf53 : MethodName := ⟨RJ9, "min", "(II)I"⟩
def RJ0 : String := "java/lang/String"
def TJ0 : u_T := fun k => match k with
  | _ => ("", "", "", false)
def tyJ0 : Nat → FieldType := fun k => match k with
  | _ => .int
abbrev wsJ00 : List Cond := u_ws RJ0 TJ0 0
theorem nmJ0 : ∀ a, a < 0 → ∀ b, b < 0 → a ≠ b → (TJ0 a).2.1 ≠ (TJ0 b).2.1 := by decide +kernel
theorem tyJ0_ok : ∀ k, k < 0 → parseFieldDescriptor (TJ0 k).2.2.1 = some (tyJ0 k) := by decide +kernel
abbrev cJ0_length_8abf5 : ByteArray := prog_16_method_54_code
def yJ0_length_8abf5 : MethodName := ⟨RJ0, "length", "()I"⟩
abbrev cJ0_charAt_5068e : ByteArray := prog_16_method_56_code
def yJ0_charAt_5068e : MethodName := ⟨RJ0, "charAt", "(I)C"⟩
abbrev cJ0_coder_7d493 : ByteArray := prog_16_method_152_code
def yJ0_coder_7d493 : MethodName := ⟨RJ0, "coder", "()B"⟩
abbrev cJ0_isLatin1_aae02 : ByteArray := prog_16_method_154_code
def yJ0_isLatin1_aae02 : MethodName := ⟨RJ0, "isLatin1", "()Z"⟩
abbrev cJ0_checkIndex_df160 : ByteArray := prog_16_method_155_code
def yJ0_checkIndex_df160 : MethodName := ⟨RJ0, "checkIndex", "(II)V"⟩
def RJ1 : String := "java/lang/StringLatin1"
def TJ1 : u_T := fun k => match k with
  | _ => ("", "", "", false)
def tyJ1 : Nat → FieldType := fun k => match k with
  | _ => .int
abbrev wsJ10 : List Cond := u_ws RJ1 TJ1 0
theorem nmJ1 : ∀ a, a < 0 → ∀ b, b < 0 → a ≠ b → (TJ1 a).2.1 ≠ (TJ1 b).2.1 := by decide +kernel
theorem tyJ1_ok : ∀ k, k < 0 → parseFieldDescriptor (TJ1 k).2.2.1 = some (tyJ1 k) := by decide +kernel
abbrev cJ1_charAt_3b067 : ByteArray := prog_17_method_2_code
def yJ1_charAt_3b067 : MethodName := ⟨RJ1, "charAt", "([BI)C"⟩
def RJ2 : String := "java/lang/StringUTF16"
def TJ2 : u_T := fun k => match k with
  | _ => ("", "", "", false)
def tyJ2 : Nat → FieldType := fun k => match k with
  | _ => .int
abbrev wsJ20 : List Cond := u_ws RJ2 TJ2 0
theorem nmJ2 : ∀ a, a < 0 → ∀ b, b < 0 → a ≠ b → (TJ2 a).2.1 ≠ (TJ2 b).2.1 := by decide +kernel
theorem tyJ2_ok : ∀ k, k < 0 → parseFieldDescriptor (TJ2 k).2.2.1 = some (tyJ2 k) := by decide +kernel
abbrev cJ2_getChar_3b067 : ByteArray := prog_18_method_5_code
def yJ2_getChar_3b067 : MethodName := ⟨RJ2, "getChar", "([BI)C"⟩
abbrev cJ2_length_9d52b : ByteArray := prog_18_method_6_code
def yJ2_length_9d52b : MethodName := ⟨RJ2, "length", "([B)I"⟩
abbrev cJ2_charAt_3b067 : ByteArray := prog_18_method_83_code
def yJ2_charAt_3b067 : MethodName := ⟨RJ2, "charAt", "([BI)C"⟩
abbrev cJ2_checkIndex_2214a : ByteArray := prog_18_method_91_code
def yJ2_checkIndex_2214a : MethodName := ⟨RJ2, "checkIndex", "(I[B)V"⟩
def RJ10 : String := "java/lang/System"
def TJ10 : u_T := fun k => match k with
  | _ => ("", "", "", false)
def tyJ10 : Nat → FieldType := fun k => match k with
  | _ => .int
abbrev wsJ100 : List Cond := u_ws RJ10 TJ10 0
theorem nmJ10 : ∀ a, a < 0 → ∀ b, b < 0 → a ≠ b → (TJ10 a).2.1 ≠ (TJ10 b).2.1 := by decide +kernel
theorem tyJ10_ok : ∀ k, k < 0 → parseFieldDescriptor (TJ10 k).2.2.1 = some (tyJ10 k) := by decide +kernel
def RJxfd54e : String := "java/lang/constant/Constable"
def TJxfd54e : u_T := fun k => match k with
  | _ => ("", "", "", false)
def tyJxfd54e : Nat → FieldType := fun k => match k with
  | _ => .int
abbrev wsJxfd54e0 : List Cond := u_ws RJxfd54e TJxfd54e 0
theorem nmJxfd54e : ∀ a, a < 0 → ∀ b, b < 0 → a ≠ b → (TJxfd54e a).2.1 ≠ (TJxfd54e b).2.1 := by decide +kernel
theorem tyJxfd54e_ok : ∀ k, k < 0 → parseFieldDescriptor (TJxfd54e k).2.2.1 = some (tyJxfd54e k) := by decide +kernel
def RJx3cf43 : String := "java/lang/constant/ConstantDesc"
def TJx3cf43 : u_T := fun k => match k with
  | _ => ("", "", "", false)
def tyJx3cf43 : Nat → FieldType := fun k => match k with
  | _ => .int
abbrev wsJx3cf430 : List Cond := u_ws RJx3cf43 TJx3cf43 0
theorem nmJx3cf43 : ∀ a, a < 0 → ∀ b, b < 0 → a ≠ b → (TJx3cf43 a).2.1 ≠ (TJx3cf43 b).2.1 := by decide +kernel
theorem tyJx3cf43_ok : ∀ k, k < 0 → parseFieldDescriptor (TJx3cf43 k).2.2.1 = some (tyJx3cf43 k) := by decide +kernel
def RJ7 : String := "java/util/Arrays"
def TJ7 : u_T := fun k => match k with
  | _ => ("", "", "", false)
def tyJ7 : Nat → FieldType := fun k => match k with
  | _ => .int
abbrev wsJ70 : List Cond := u_ws RJ7 TJ7 0
theorem nmJ7 : ∀ a, a < 0 → ∀ b, b < 0 → a ≠ b → (TJ7 a).2.1 ≠ (TJ7 b).2.1 := by decide +kernel
theorem tyJ7_ok : ∀ k, k < 0 → parseFieldDescriptor (TJ7 k).2.2.1 = some (tyJ7 k) := by decide +kernel
abbrev cJ7_fill_53178 : ByteArray := prog_20_method_103_code
def yJ7_fill_53178 : MethodName := ⟨RJ7, "fill", "([II)V"⟩
def RJ3 : String := "jdk/internal/util/Preconditions"
def TJ3 : u_T := fun k => match k with
  | _ => ("", "", "", false)
def tyJ3 : Nat → FieldType := fun k => match k with
  | _ => .int
abbrev wsJ30 : List Cond := u_ws RJ3 TJ3 0
theorem nmJ3 : ∀ a, a < 0 → ∀ b, b < 0 → a ≠ b → (TJ3 a).2.1 ≠ (TJ3 b).2.1 := by decide +kernel
theorem tyJ3_ok : ∀ k, k < 0 → parseFieldDescriptor (TJ3 k).2.2.1 = some (tyJ3 k) := by decide +kernel
abbrev cJ3_checkIndex_8e157 : ByteArray := prog_21_method_11_code
def yJ3_checkIndex_8e157 : MethodName := ⟨RJ3, "checkIndex", "(IILjava/util/function/BiFunction;)I"⟩
def RL : String := "EqualPlainLaw"
abbrev cL_law : ByteArray := code
def yL_law : MethodName := ⟨RL, "law", "([I)Z"⟩
def wsL_law_r1 : List Cond := [Cond.classLink RL 7 RX10, Cond.instantiable RX10 11, Cond.initialized RX10, Cond.classLink RL 10 RX11, Cond.instantiable RX11 39, Cond.initialized RX11, Cond.methodLink RL 9 yX10_init, Cond.instanceMethod yX10_init, Cond.code yX10_init cX10_init 2 none, Cond.methodLink RX10 1 objectInit, Cond.instanceMethod objectInit, Cond.code objectInit ⟨#[0xb1]⟩ 1 none, Cond.classLink RX10 7 RX9, Cond.instantiable RX9 6, Cond.initialized RX9, Cond.fieldLink RX10 10 "EqualPlain" "town" "LEqualPlain$Town;", Cond.fieldLink RX10 16 "EqualPlain" "kept" "LEqualPlain$Town;", Cond.fieldLink RX10 19 "EqualPlain" "isKept" "Z", Cond.fieldLink RX10 23 "EqualPlain" "trial" "LEqualPlain$Town;", Cond.classLink RX10 26 RX8, Cond.instantiable RX8 2, Cond.initialized RX8, Cond.fieldLink RX10 29 "EqualPlain" "tape" "LEqualPlain$Tape;", Cond.classLink RX10 33 RX6]
def wsL_law_r2 : List Cond := [Cond.fieldLink RX10 35 "EqualPlain" "sheets" "[LEqualPlain$Sheet;", Cond.arrayClass .int, Cond.fieldLink RX10 39 "EqualPlain" "told" "[I", Cond.classLink RX10 43 RX7, Cond.instantiable RX7 3, Cond.initialized RX7, Cond.fieldLink RX10 46 "EqualPlain" "spread" "LEqualPlain$Spread;", Cond.classLink RX10 50 RX3, Cond.instantiable RX3 4, Cond.initialized RX3, Cond.fieldLink RX10 53 "EqualPlain" "ladder" "LEqualPlain$Ladder;", Cond.classLink RX10 57 RX4, Cond.instantiable RX4 3, Cond.initialized RX4, Cond.fieldLink RX10 60 "EqualPlain" "openings" "LEqualPlain$Openings;", Cond.classLink RX10 64 RX0, Cond.instantiable RX0 3, Cond.initialized RX0, Cond.fieldLink RX10 67 "EqualPlain" "history" "LEqualPlain$History;", Cond.instantiable RX6 3, Cond.initialized RX6, Cond.methodLink RX10 9 yX9_init, Cond.instanceMethod yX9_init, Cond.code yX9_init cX9_init 1 none]
def wsL_law_r3 : List Cond := [Cond.methodLink RX9 3 objectInit, Cond.classLink RX9 9 RX1, Cond.instantiable RX1 4, Cond.initialized RX1, Cond.fieldLink RX9 12 "EqualPlain$Town" "houses" "LEqualPlain$Houses;", Cond.fieldLink RX9 18 "EqualPlain$Town" "worth" "[I", Cond.fieldLink RX9 22 "EqualPlain$Town" "spots" "[I", Cond.fieldLink RX9 25 "EqualPlain$Town" "purse" "I", Cond.fieldLink RX9 29 "EqualPlain$Town" "age" "I", Cond.fieldLink RX9 32 "EqualPlain$Town" "luck" "I", Cond.instanceMethod yX1_init, Cond.code yX1_init cX1_init 1 none, Cond.methodLink RX1 3 objectInit, Cond.fieldLink RX1 9 "EqualPlain$Houses" "size" "I", Cond.fieldLink RX1 15 "EqualPlain$Houses" "kinds" "[I", Cond.fieldLink RX1 19 "EqualPlain$Houses" "homes" "[I", Cond.fieldLink RX1 22 "EqualPlain$Houses" "fars" "[I", Cond.methodLink RX9 35 yJ7_fill_53178, Cond.static yJ7_fill_53178, Cond.initialized RJ7, Cond.code yJ7_fill_53178 cJ7_fill_53178 4 none, Cond.instanceMethod yX8_init, Cond.code yX8_init cX8_init 1 none, Cond.methodLink RX8 3 objectInit]
def wsL_law_r4 : List Cond := [Cond.arrayClass .byte, Cond.fieldLink RX8 9 "EqualPlain$Tape" "bytes" "[B", Cond.fieldLink RX8 15 "EqualPlain$Tape" "size" "I", Cond.instanceMethod yX7_init, Cond.code yX7_init cX7_init 1 none, Cond.methodLink RX7 3 objectInit, Cond.arrayClass .boolean, Cond.fieldLink RX7 9 "EqualPlain$Spread" "had" "[Z", Cond.fieldLink RX7 15 "EqualPlain$Spread" "putUp" "[I", Cond.fieldLink RX7 19 "EqualPlain$Spread" "size" "I", Cond.instanceMethod yX3_init, Cond.code yX3_init cX3_init 1 none, Cond.methodLink RX3 3 objectInit, Cond.fieldLink RX3 9 "EqualPlain$Ladder" "free" "[Z", Cond.fieldLink RX3 15 "EqualPlain$Ladder" "near" "[Z", Cond.fieldLink RX3 18 "EqualPlain$Ladder" "first" "I", Cond.fieldLink RX3 22 "EqualPlain$Ladder" "second" "I", Cond.instanceMethod yX4_init, Cond.code yX4_init cX4_init 1 none, Cond.methodLink RX4 3 objectInit, Cond.fieldLink RX4 9 "EqualPlain$Openings" "free" "[Z", Cond.fieldLink RX4 15 "EqualPlain$Openings" "stood" "[Z", Cond.fieldLink RX4 18 "EqualPlain$Openings" "most" "I", Cond.instanceMethod yX0_init]
def wsL_law_r5 : List Cond := [Cond.code yX0_init cX0_init 1 none, Cond.methodLink RX0 3 objectInit, Cond.fieldLink RX0 9 "EqualPlain$History" "ways" "[I", Cond.fieldLink RX0 15 "EqualPlain$History" "even" "[I", Cond.fieldLink RX0 18 "EqualPlain$History" "size" "I", Cond.instanceMethod yX6_init, Cond.code yX6_init cX6_init 1 none, Cond.methodLink RX6 3 objectInit, Cond.fieldLink RX6 9 "EqualPlain$Sheet" "bits" "I", Cond.fieldLink RX6 15 "EqualPlain$Sheet" "size" "I", Cond.fieldLink RX6 18 "EqualPlain$Sheet" "numbers" "[I", Cond.methodLink RL 12 yX11_init, Cond.instanceMethod yX11_init, Cond.code yX11_init cX11_init 2 none, Cond.methodLink RX11 3 objectInit, Cond.fieldLink RX11 9 "EqualPlainModel" "kind" "[I", Cond.fieldLink RX11 13 "EqualPlainModel" "lot" "[I", Cond.fieldLink RX11 16 "EqualPlainModel" "worth" "[I", Cond.fieldLink RX11 19 "EqualPlainModel" "spot" "[I", Cond.fieldLink RX11 22 "EqualPlainModel" "coin" "I", Cond.fieldLink RX11 26 "EqualPlainModel" "z" "I", Cond.fieldLink RX11 29 "EqualPlainModel" "keptKind" "[I", Cond.fieldLink RX11 32 "EqualPlainModel" "keptLot" "[I", Cond.fieldLink RX11 35 "EqualPlainModel" "keptWorth" "[I"]
def wsL_law_r6 : List Cond := [Cond.fieldLink RX11 38 "EqualPlainModel" "keptSpot" "[I", Cond.fieldLink RX11 41 "EqualPlainModel" "tape" "[I", Cond.fieldLink RX11 44 "EqualPlainModel" "found" "[I", Cond.fieldLink RX11 47 "EqualPlainModel" "away" "[I", Cond.fieldLink RX11 50 "EqualPlainModel" "isEver" "[Z", Cond.fieldLink RX11 54 "EqualPlainModel" "kindsBefore" "[I", Cond.fieldLink RX11 57 "EqualPlainModel" "ways" "[I", Cond.fieldLink RX11 60 "EqualPlainModel" "worthBefore" "[I", Cond.fieldLink RX11 63 "EqualPlainModel" "bitsOf" "[I", Cond.fieldLink RX11 66 "EqualPlainModel" "sizeOf" "[I", Cond.fieldLink RX11 69 "EqualPlainModel" "number" "[I", Cond.fieldLink RX11 72 "EqualPlainModel" "moved" "[I", Cond.methodLink RL 13 yX10_grace, Cond.instanceMethod yX10_grace, Cond.selects RX10 yX10_grace yX10_grace, Cond.code yX10_grace cX10_grace 5 (some .int), Cond.constant RX10 80 (-1000001), Cond.constant RX10 98 (-1000005), Cond.constant RX10 103 (-1000002), Cond.methodLink RX10 72 yX10_isKind, Cond.static yX10_isKind, Cond.code yX10_isKind cX10_isKind 1 (some .boolean), Cond.methodLink RX10 76 yX10_isLot, Cond.static yX10_isLot]
def wsL_law_r7 : List Cond := [Cond.code yX10_isLot cX10_isLot 2 (some .boolean), Cond.methodLink RX10 168 yX10_isPlace, Cond.static yX10_isPlace, Cond.code yX10_isPlace cX10_isPlace 1 (some .boolean), Cond.methodLink RX10 81 yX10_finding, Cond.instanceMethod yX10_finding, Cond.selects RX10 yX10_finding yX10_finding, Cond.code yX10_finding cX10_finding 3 (some .int), Cond.methodLink RX10 85 yX9_houses, Cond.instanceMethod yX9_houses, Cond.selects RX9 yX9_houses yX9_houses, Cond.code yX9_houses cX9_houses 1 (some (.object "EqualPlain$Houses")), Cond.methodLink RX10 89 yX10_lotOf, Cond.static yX10_lotOf, Cond.code yX10_lotOf cX10_lotOf 2 (some .int), Cond.methodLink RX10 93 yX1_stands, Cond.instanceMethod yX1_stands, Cond.selects RX1 yX1_stands yX1_stands, Cond.code yX1_stands cX1_stands 3 (some .boolean), Cond.methodLink RX10 99 yX1_isFull, Cond.instanceMethod yX1_isFull, Cond.selects RX1 yX1_isFull yX1_isFull, Cond.code yX1_isFull cX1_isFull 1 (some .boolean), Cond.methodLink RX10 104 yX1_put]
def wsL_law_r8 : List Cond := [Cond.instanceMethod yX1_put, Cond.selects RX1 yX1_put yX1_put, Cond.code yX1_put cX1_put 3 none, Cond.methodLink RX1 29 yX1_isFull, Cond.methodLink RX10 108 yX1_size, Cond.instanceMethod yX1_size, Cond.selects RX1 yX1_size yX1_size, Cond.code yX1_size cX1_size 1 (some .int), Cond.methodLink RL 17 yX11_grace, Cond.instanceMethod yX11_grace, Cond.selects RX11 yX11_grace yX11_grace, Cond.code yX11_grace cX11_grace 4 (some .int), Cond.fieldLink RX11 76 "EqualPlainModel" "many" "I", Cond.methodLink RX11 113 yX11_isKind, Cond.static yX11_isKind, Cond.code yX11_isKind cX11_isKind 1 (some .boolean), Cond.methodLink RX11 79 yX11_within, Cond.static yX11_within, Cond.code yX11_within cX11_within 3 (some .boolean), Cond.methodLink RX11 116 yX11_isLot, Cond.static yX11_isLot, Cond.code yX11_isLot cX11_isLot 2 (some .boolean), Cond.methodLink RX11 119 yX11_finding, Cond.instanceMethod yX11_finding]
def wsL_law_r9 : List Cond := [Cond.selects RX11 yX11_finding yX11_finding, Cond.code yX11_finding cX11_finding 2 (some .int), Cond.constant RX11 75 (-1000001), Cond.methodLink RX11 103 yX11_houseOn, Cond.instanceMethod yX11_houseOn, Cond.selects RX11 yX11_houseOn yX11_houseOn, Cond.code yX11_houseOn cX11_houseOn 3 (some .int), Cond.methodLink RX11 122 yX11_put, Cond.instanceMethod yX11_put, Cond.selects RX11 yX11_put yX11_put, Cond.code yX11_put cX11_put 3 none, Cond.methodLink RL 18 yX10_build, Cond.instanceMethod yX10_build, Cond.selects RX10 yX10_build yX10_build, Cond.code yX10_build cX10_build 4 (some .int), Cond.methodLink RX10 112 yX9_allows, Cond.instanceMethod yX9_allows, Cond.selects RX9 yX9_allows yX9_allows, Cond.code yX9_allows cX9_allows 3 (some .boolean), Cond.methodLink RX9 62 yX2_costs, Cond.static yX2_costs, Cond.initialized RX2, Cond.code yX2_costs cX2_costs 1 (some .int), Cond.methodLink RX9 41 yX1_isFree]
def wsL_law_r10 : List Cond := [Cond.instanceMethod yX1_isFree, Cond.selects RX1 yX1_isFree yX1_isFree, Cond.code yX1_isFree cX1_isFree 2 (some .boolean), Cond.methodLink RX1 60 yX1_stands, Cond.methodLink RX1 63 yX1_evenPairs, Cond.instanceMethod yX1_evenPairs, Cond.selects RX1 yX1_evenPairs yX1_evenPairs, Cond.code yX1_evenPairs cX1_evenPairs 7 (some .int), Cond.methodLink RX1 56 yX1_measureAll, Cond.instanceMethod yX1_measureAll, Cond.selects RX1 yX1_measureAll yX1_measureAll, Cond.code yX1_measureAll cX1_measureAll 3 none, Cond.methodLink RX1 33 yX2_measure, Cond.static yX2_measure, Cond.code yX2_measure cX2_measure 6 (some .int), Cond.methodLink RX1 39 yX2_isPair, Cond.static yX2_isPair, Cond.code yX2_isPair cX2_isPair 4 (some .boolean), Cond.methodLink RX2 15 yX2_accepts, Cond.static yX2_accepts, Cond.code yX2_accepts cX2_accepts 4 (some .boolean), Cond.methodLink RX2 9 yX2_measure, Cond.methodLink RX10 115 yX9_raise, Cond.instanceMethod yX9_raise]
def wsL_law_r11 : List Cond := [Cond.selects RX9 yX9_raise yX9_raise, Cond.code yX9_raise cX9_raise 3 none, Cond.methodLink RX9 68 yX1_put, Cond.methodLink RX9 72 yX9_worthOf, Cond.instanceMethod yX9_worthOf, Cond.selects RX9 yX9_worthOf yX9_worthOf, Cond.code yX9_worthOf cX9_worthOf 2 (some .int), Cond.methodLink RX10 118 yX9_purse, Cond.instanceMethod yX9_purse, Cond.selects RX9 yX9_purse yX9_purse, Cond.code yX9_purse cX9_purse 1 (some .int), Cond.methodLink RL 21 yX11_build, Cond.instanceMethod yX11_build, Cond.selects RX11 yX11_build yX11_build, Cond.code yX11_build cX11_build 4 (some .int), Cond.methodLink RX11 109 yX11_isFree, Cond.instanceMethod yX11_isFree, Cond.selects RX11 yX11_isFree yX11_isFree, Cond.code yX11_isFree cX11_isFree 2 (some .boolean), Cond.methodLink RX11 106 yX11_pairBy, Cond.instanceMethod yX11_pairBy, Cond.selects RX11 yX11_pairBy yX11_pairBy, Cond.code yX11_pairBy cX11_pairBy 7 (some .int), Cond.methodLink RX11 92 yX11_farOf]
def wsL_law_r12 : List Cond := [Cond.static yX11_farOf, Cond.code yX11_farOf cX11_farOf 5 (some .int), Cond.methodLink RX11 87 Lib.Math.abs.name, Cond.static Lib.Math.abs.name, Cond.initialized "java/lang/Math", Cond.code Lib.Math.abs.name Lib.Math.abs.code 1 (some .int), Cond.methodLink RX11 100 yX11_arePair, Cond.instanceMethod yX11_arePair, Cond.selects RX11 yX11_arePair yX11_arePair, Cond.code yX11_arePair cX11_arePair 3 (some .boolean), Cond.methodLink RX11 96 yX11_counts, Cond.instanceMethod yX11_counts, Cond.selects RX11 yX11_counts yX11_counts, Cond.code yX11_counts cX11_counts 3 (some .boolean), Cond.methodLink RX11 126 yX11_costs, Cond.static yX11_costs, Cond.code yX11_costs cX11_costs 1 (some .int), Cond.methodLink RX11 129 yX11_builds, Cond.instanceMethod yX11_builds, Cond.selects RX11 yX11_builds yX11_builds, Cond.code yX11_builds cX11_builds 3 none, Cond.methodLink RL 22 yX10_of, Cond.instanceMethod yX10_of, Cond.selects RX10 yX10_of yX10_of]
def wsL_law_r13 : List Cond := [Cond.code yX10_of cX10_of 4 (some .int), Cond.methodLink RX10 121 yX1_has, Cond.instanceMethod yX1_has, Cond.selects RX1 yX1_has yX1_has, Cond.code yX1_has cX1_has 2 (some .boolean), Cond.methodLink RX10 124 yX1_kindOf, Cond.instanceMethod yX1_kindOf, Cond.selects RX1 yX1_kindOf yX1_kindOf, Cond.code yX1_kindOf cX1_kindOf 2 (some .int), Cond.methodLink RX1 25 yX1_has, Cond.methodLink RX10 127 yX1_homeOf, Cond.instanceMethod yX1_homeOf, Cond.selects RX1 yX1_homeOf yX1_homeOf, Cond.code yX1_homeOf cX1_homeOf 2 (some .int), Cond.methodLink RX10 130 yX2_costs, Cond.methodLink RX10 135 yX1_partners, Cond.instanceMethod yX1_partners, Cond.selects RX1 yX1_partners yX1_partners, Cond.code yX1_partners cX1_partners 4 (some .int), Cond.methodLink RX1 43 yX1_arePair, Cond.instanceMethod yX1_arePair, Cond.selects RX1 yX1_arePair yX1_arePair, Cond.code yX1_arePair cX1_arePair 3 (some .boolean), Cond.methodLink RL 26 yX11_of]
def wsL_law_r14 : List Cond := [Cond.instanceMethod yX11_of, Cond.selects RX11 yX11_of yX11_of, Cond.code yX11_of cX11_of 3 (some .int), Cond.methodLink RX11 132 yX11_isHouse, Cond.instanceMethod yX11_isHouse, Cond.selects RX11 yX11_isHouse yX11_isHouse, Cond.code yX11_isHouse cX11_isHouse 2 (some .boolean), Cond.methodLink RX11 135 yX11_pairsOf, Cond.instanceMethod yX11_pairsOf, Cond.selects RX11 yX11_pairsOf yX11_pairsOf, Cond.code yX11_pairsOf cX11_pairsOf 4 (some .int), Cond.methodLink RL 27 yX10_change, Cond.instanceMethod yX10_change, Cond.selects RX10 yX10_change yX10_change, Cond.code yX10_change cX10_change 5 (some .int), Cond.methodLink RX10 138 yX1_become, Cond.instanceMethod yX1_become, Cond.selects RX1 yX1_become yX1_become, Cond.code yX1_become cX1_become 3 none, Cond.methodLink RL 30 yX11_change, Cond.instanceMethod yX11_change, Cond.selects RX11 yX11_change yX11_change, Cond.code yX11_change cX11_change 4 (some .int), Cond.methodLink RL 31 yX10_fire]
def wsL_law_r15 : List Cond := [Cond.instanceMethod yX10_fire, Cond.selects RX10 yX10_fire yX10_fire, Cond.code yX10_fire cX10_fire 3 (some .int), Cond.constant RX10 141 (-1000004), Cond.methodLink RX10 142 yX1_burnLast, Cond.instanceMethod yX1_burnLast, Cond.selects RX1 yX1_burnLast yX1_burnLast, Cond.code yX1_burnLast cX1_burnLast 1 none, Cond.methodLink RL 35 yX11_fire, Cond.instanceMethod yX11_fire, Cond.selects RX11 yX11_fire yX11_fire, Cond.code yX11_fire cX11_fire 1 (some .int), Cond.methodLink RL 36 yX10_worth, Cond.instanceMethod yX10_worth, Cond.selects RX10 yX10_worth yX10_worth, Cond.code yX10_worth cX10_worth 5 (some .int), Cond.methodLink RX10 145 yX9_worthOf, Cond.methodLink RX10 148 yX9_setWorth, Cond.instanceMethod yX9_setWorth, Cond.selects RX9 yX9_setWorth yX9_setWorth, Cond.code yX9_setWorth cX9_setWorth 3 none, Cond.methodLink RL 39 yX11_worth, Cond.instanceMethod yX11_worth, Cond.selects RX11 yX11_worth yX11_worth]
def wsL_law_r16 : List Cond := [Cond.code yX11_worth cX11_worth 5 (some .int), Cond.methodLink RL 40 yX10_coin, Cond.instanceMethod yX10_coin, Cond.selects RX10 yX10_coin yX10_coin, Cond.code yX10_coin cX10_coin 3 (some .int), Cond.constant RX10 151 (99999), Cond.methodLink RX10 152 yX9_setPurse, Cond.instanceMethod yX9_setPurse, Cond.selects RX9 yX9_setPurse yX9_setPurse, Cond.code yX9_setPurse cX9_setPurse 2 none, Cond.methodLink RL 44 yX11_coin, Cond.instanceMethod yX11_coin, Cond.selects RX11 yX11_coin yX11_coin, Cond.code yX11_coin cX11_coin 3 (some .int), Cond.constant RX11 138 (99999), Cond.methodLink RL 45 yX10_far, Cond.instanceMethod yX10_far, Cond.selects RX10 yX10_far yX10_far, Cond.code yX10_far cX10_far 5 (some .int), Cond.methodLink RX10 156 yX1_farOf, Cond.instanceMethod yX1_farOf, Cond.selects RX1 yX1_farOf yX1_farOf, Cond.code yX1_farOf cX1_farOf 3 (some .int), Cond.methodLink RL 48 yX11_far]
def wsL_law_r17 : List Cond := [Cond.instanceMethod yX11_far, Cond.selects RX11 yX11_far yX11_far, Cond.code yX11_far cX11_far 4 (some .int), Cond.methodLink RL 49 yX10_pairs, Cond.instanceMethod yX10_pairs, Cond.selects RX10 yX10_pairs yX10_pairs, Cond.code yX10_pairs cX10_pairs 3 (some .int), Cond.methodLink RX10 159 yX1_freeings, Cond.instanceMethod yX1_freeings, Cond.selects RX1 yX1_freeings yX1_freeings, Cond.code yX1_freeings cX1_freeings 2 (some .int), Cond.methodLink RL 52 yX11_pairs, Cond.instanceMethod yX11_pairs, Cond.selects RX11 yX11_pairs yX11_pairs, Cond.code yX11_pairs cX11_pairs 3 (some .int), Cond.methodLink RX11 139 yX11_howManyPairs, Cond.instanceMethod yX11_howManyPairs, Cond.selects RX11 yX11_howManyPairs yX11_howManyPairs, Cond.code yX11_howManyPairs cX11_howManyPairs 3 (some .int), Cond.methodLink RL 53 yX10_pair, Cond.instanceMethod yX10_pair, Cond.selects RX10 yX10_pair yX10_pair, Cond.code yX10_pair cX10_pair 4 (some .int), Cond.methodLink RX10 162 yX1_isFree]
def wsL_law_r18 : List Cond := [Cond.methodLink RX10 165 yX1_firstPair, Cond.instanceMethod yX1_firstPair, Cond.selects RX1 yX1_firstPair yX1_firstPair, Cond.code yX1_firstPair cX1_firstPair 4 (some .int), Cond.methodLink RL 56 yX11_pair, Cond.instanceMethod yX11_pair, Cond.selects RX11 yX11_pair yX11_pair, Cond.code yX11_pair cX11_pair 4 (some .int), Cond.methodLink RL 57 yX10_row, Cond.instanceMethod yX10_row, Cond.selects RX10 yX10_row yX10_row, Cond.code yX10_row cX10_row 4 (some .int), Cond.methodLink RL 60 yX11_row, Cond.instanceMethod yX11_row, Cond.selects RX11 yX11_row yX11_row, Cond.code yX11_row cX11_row 2 (some .int), Cond.methodLink RX11 145 yX11_inRow, Cond.instanceMethod yX11_inRow, Cond.selects RX11 yX11_inRow yX11_inRow, Cond.code yX11_inRow cX11_inRow 5 (some .int), Cond.methodLink RX11 142 yX11_isSo, Cond.instanceMethod yX11_isSo, Cond.selects RX11 yX11_isSo yX11_isSo, Cond.code yX11_isSo cX11_isSo 3 (some .boolean)]
def wsL_law_r19 : List Cond := [Cond.methodLink RL 61 yX10_lots, Cond.instanceMethod yX10_lots, Cond.selects RX10 yX10_lots yX10_lots, Cond.code yX10_lots cX10_lots 2 (some .int), Cond.methodLink RX10 171 yX1_countFree, Cond.instanceMethod yX1_countFree, Cond.selects RX1 yX1_countFree yX1_countFree, Cond.code yX1_countFree cX1_countFree 3 (some .int), Cond.methodLink RX1 66 yX1_isFree, Cond.methodLink RX10 174 yX1_countFreeByOne, Cond.instanceMethod yX1_countFreeByOne, Cond.selects RX1 yX1_countFreeByOne yX1_countFreeByOne, Cond.code yX1_countFreeByOne cX1_countFreeByOne 3 (some .int), Cond.methodLink RX1 69 yX1_freeings, Cond.methodLink RX10 177 yX7_reach, Cond.instanceMethod yX7_reach, Cond.selects RX7 yX7_reach yX7_reach, Cond.code yX7_reach cX7_reach 4 (some .int), Cond.methodLink RX7 23 yX1_isFree, Cond.methodLink RX7 29 yX7_add, Cond.instanceMethod yX7_add, Cond.selects RX7 yX7_add yX7_add, Cond.code yX7_add cX7_add 2 none, Cond.methodLink RX7 33 yX1_stands]
def wsL_law_r20 : List Cond := [Cond.methodLink RX7 36 yX7_isOpenedBy, Cond.instanceMethod yX7_isOpenedBy, Cond.selects RX7 yX7_isOpenedBy yX7_isOpenedBy, Cond.code yX7_isOpenedBy cX7_isOpenedBy 6 (some .boolean), Cond.methodLink RX7 40 yX2_measure, Cond.methodLink RX7 46 yX1_isEvenWith, Cond.instanceMethod yX1_isEvenWith, Cond.selects RX1 yX1_isEvenWith yX1_isEvenWith, Cond.code yX1_isEvenWith cX1_isEvenWith 6 (some .boolean), Cond.methodLink RL 64 yX11_lots, Cond.instanceMethod yX11_lots, Cond.selects RX11 yX11_lots yX11_lots, Cond.code yX11_lots cX11_lots 4 (some .int), Cond.methodLink RX11 149 yX11_findEver, Cond.instanceMethod yX11_findEver, Cond.selects RX11 yX11_findEver yX11_findEver, Cond.code yX11_findEver cX11_findEver 4 none, Cond.methodLink RL 65 yX10_only, Cond.instanceMethod yX10_only, Cond.selects RX10 yX10_only yX10_only, Cond.code yX10_only cX10_only 4 (some .int), Cond.methodLink RL 68 yX11_only, Cond.instanceMethod yX11_only, Cond.selects RX11 yX11_only yX11_only]
def wsL_law_r21 : List Cond := [Cond.code yX11_only cX11_only 2 (some .int), Cond.methodLink RL 69 yX10_ever, Cond.instanceMethod yX10_ever, Cond.selects RX10 yX10_ever yX10_ever, Cond.code yX10_ever cX10_ever 4 (some .int), Cond.methodLink RX10 181 yX7_isHad, Cond.instanceMethod yX7_isHad, Cond.selects RX7 yX7_isHad yX7_isHad, Cond.code yX7_isHad cX7_isHad 2 (some .boolean), Cond.methodLink RL 72 yX11_ever, Cond.instanceMethod yX11_ever, Cond.selects RX11 yX11_ever yX11_ever, Cond.code yX11_ever cX11_ever 2 (some .int), Cond.methodLink RL 73 yX10_sum, Cond.instanceMethod yX10_sum, Cond.selects RX10 yX10_sum yX10_sum, Cond.code yX10_sum cX10_sum 3 (some .int), Cond.methodLink RL 76 yX11_sum, Cond.instanceMethod yX11_sum, Cond.selects RX11 yX11_sum yX11_sum, Cond.code yX11_sum cX11_sum 3 (some .int), Cond.methodLink RL 77 yX10_best, Cond.instanceMethod yX10_best, Cond.selects RX10 yX10_best yX10_best]
def wsL_law_r22 : List Cond := [Cond.code yX10_best cX10_best 3 (some .int), Cond.methodLink RL 80 yX11_best, Cond.instanceMethod yX11_best, Cond.selects RX11 yX11_best yX11_best, Cond.code yX11_best cX11_best 3 (some .int), Cond.methodLink RL 81 yX10_loses, Cond.instanceMethod yX10_loses, Cond.selects RX10 yX10_loses yX10_loses, Cond.code yX10_loses cX10_loses 5 (some .int), Cond.methodLink RX10 184 yX1_isFreeWithout, Cond.instanceMethod yX1_isFreeWithout, Cond.selects RX1 yX1_isFreeWithout yX1_isFreeWithout, Cond.code yX1_isFreeWithout cX1_isFreeWithout 3 (some .boolean), Cond.methodLink RL 84 yX11_loses, Cond.instanceMethod yX11_loses, Cond.selects RX11 yX11_loses yX11_loses, Cond.code yX11_loses cX11_loses 2 (some .int), Cond.methodLink RX11 155 yX11_lossOf, Cond.instanceMethod yX11_lossOf, Cond.selects RX11 yX11_lossOf yX11_lossOf, Cond.code yX11_lossOf cX11_lossOf 5 (some .int), Cond.methodLink RX11 152 yX11_isFreeWithout, Cond.instanceMethod yX11_isFreeWithout, Cond.selects RX11 yX11_isFreeWithout yX11_isFreeWithout]
def wsL_law_r23 : List Cond := [Cond.code yX11_isFreeWithout cX11_isFreeWithout 3 (some .boolean), Cond.methodLink RL 85 yX10_dear, Cond.instanceMethod yX10_dear, Cond.selects RX10 yX10_dear yX10_dear, Cond.code yX10_dear cX10_dear 2 (some .int), Cond.methodLink RX10 187 yX9_worthLost, Cond.instanceMethod yX9_worthLost, Cond.selects RX9 yX9_worthLost yX9_worthLost, Cond.code yX9_worthLost cX9_worthLost 4 (some .int), Cond.methodLink RX9 45 yX1_isFreeWithout, Cond.methodLink RL 88 yX11_dear, Cond.instanceMethod yX11_dear, Cond.selects RX11 yX11_dear yX11_dear, Cond.code yX11_dear cX11_dear 2 (some .int), Cond.methodLink RL 89 yX10_dearest, Cond.instanceMethod yX10_dearest, Cond.selects RX10 yX10_dearest yX10_dearest, Cond.code yX10_dearest cX10_dearest 5 (some .int), Cond.methodLink RL 92 yX11_dearest, Cond.instanceMethod yX11_dearest, Cond.selects RX11 yX11_dearest yX11_dearest, Cond.code yX11_dearest cX11_dearest 5 (some .int), Cond.methodLink RL 93 yX10_keepers, Cond.instanceMethod yX10_keepers]
def wsL_law_r24 : List Cond := [Cond.selects RX10 yX10_keepers yX10_keepers, Cond.code yX10_keepers cX10_keepers 6 (some .int), Cond.methodLink RL 96 yX11_keepers, Cond.instanceMethod yX11_keepers, Cond.selects RX11 yX11_keepers yX11_keepers, Cond.code yX11_keepers cX11_keepers 5 (some .int), Cond.methodLink RL 97 yX10_kindFor, Cond.instanceMethod yX10_kindFor, Cond.selects RX10 yX10_kindFor yX10_kindFor, Cond.code yX10_kindFor cX10_kindFor 7 (some .int), Cond.methodLink RX10 190 yX1_becomeAs, Cond.instanceMethod yX1_becomeAs, Cond.selects RX1 yX1_becomeAs yX1_becomeAs, Cond.code yX1_becomeAs cX1_becomeAs 3 none, Cond.methodLink RL 100 yX11_kindFor, Cond.instanceMethod yX11_kindFor, Cond.selects RX11 yX11_kindFor yX11_kindFor, Cond.code yX11_kindFor cX11_kindFor 7 (some .int), Cond.methodLink RX11 159 yX11_freeLots, Cond.instanceMethod yX11_freeLots, Cond.selects RX11 yX11_freeLots yX11_freeLots, Cond.code yX11_freeLots cX11_freeLots 3 (some .int), Cond.methodLink RL 101 yX10_law, Cond.instanceMethod yX10_law]
def wsL_law_r25 : List Cond := [Cond.selects RX10 yX10_law yX10_law, Cond.code yX10_law cX10_law 6 (some .int), Cond.methodLink RX10 194 yX1_allBecome, Cond.instanceMethod yX1_allBecome, Cond.selects RX1 yX1_allBecome yX1_allBecome, Cond.code yX1_allBecome cX1_allBecome 3 none, Cond.methodLink RL 104 yX11_law, Cond.instanceMethod yX11_law, Cond.selects RX11 yX11_law yX11_law, Cond.code yX11_law cX11_law 5 (some .int), Cond.methodLink RL 105 yX10_huts, Cond.instanceMethod yX10_huts, Cond.selects RX10 yX10_huts yX10_huts, Cond.code yX10_huts cX10_huts 4 (some .int), Cond.methodLink RX10 197 yX3_find, Cond.instanceMethod yX3_find, Cond.selects RX3 yX3_find yX3_find, Cond.code yX3_find cX3_find 4 (some .int), Cond.methodLink RX3 25 yX1_isFree, Cond.methodLink RX3 31 yX1_stands, Cond.methodLink RX3 34 yX1_isEvenWith, Cond.methodLink RX3 38 yX3_findSecond, Cond.instanceMethod yX3_findSecond, Cond.selects RX3 yX3_findSecond yX3_findSecond]
def wsL_law_r26 : List Cond := [Cond.code yX3_findSecond cX3_findSecond 7 (some .boolean), Cond.methodLink RX3 42 yX2_measure, Cond.methodLink RL 108 yX11_huts, Cond.instanceMethod yX11_huts, Cond.selects RX11 yX11_huts yX11_huts, Cond.code yX11_huts cX11_huts 4 (some .int), Cond.methodLink RX11 172 yX11_hutsFor, Cond.instanceMethod yX11_hutsFor, Cond.selects RX11 yX11_hutsFor yX11_hutsFor, Cond.code yX11_hutsFor cX11_hutsFor 4 (some .int), Cond.fieldLink RX11 163 "EqualPlainModel" "secondHut" "I", Cond.fieldLink RX11 169 "EqualPlainModel" "firstHut" "I", Cond.methodLink RX11 166 yX11_isFreeByOne, Cond.instanceMethod yX11_isFreeByOne, Cond.selects RX11 yX11_isFreeByOne yX11_isFreeByOne, Cond.code yX11_isFreeByOne cX11_isFreeByOne 4 (some .boolean), Cond.methodLink RL 109 yX10_hut, Cond.instanceMethod yX10_hut, Cond.selects RX10 yX10_hut yX10_hut, Cond.code yX10_hut cX10_hut 5 (some .int), Cond.methodLink RX10 201 yX3_first, Cond.instanceMethod yX3_first, Cond.selects RX3 yX3_first yX3_first, Cond.code yX3_first cX3_first 1 (some .int)]
def wsL_law_r27 : List Cond := [Cond.methodLink RX10 204 yX3_second, Cond.instanceMethod yX3_second, Cond.selects RX3 yX3_second yX3_second, Cond.code yX3_second cX3_second 1 (some .int), Cond.methodLink RL 112 yX11_hut, Cond.instanceMethod yX11_hut, Cond.selects RX11 yX11_hut yX11_hut, Cond.code yX11_hut cX11_hut 4 (some .int), Cond.methodLink RL 113 yX10_opens, Cond.instanceMethod yX10_opens, Cond.selects RX10 yX10_opens yX10_opens, Cond.code yX10_opens cX10_opens 3 (some .int), Cond.methodLink RX10 207 yX4_find, Cond.instanceMethod yX4_find, Cond.selects RX4 yX4_find yX4_find, Cond.code yX4_find cX4_find 6 (some .int), Cond.methodLink RX4 22 yX1_isFree, Cond.methodLink RX4 28 yX1_stands, Cond.methodLink RX4 31 yX4_countWith, Cond.instanceMethod yX4_countWith, Cond.selects RX4 yX4_countWith yX4_countWith, Cond.code yX4_countWith cX4_countWith 6 (some .int), Cond.methodLink RX4 35 yX1_isEvenWith, Cond.methodLink RL 116 yX11_opens]
def wsL_law_r28 : List Cond := [Cond.instanceMethod yX11_opens, Cond.selects RX11 yX11_opens yX11_opens, Cond.code yX11_opens cX11_opens 3 (some .int), Cond.methodLink RX11 178 yX11_lacksToOpen, Cond.instanceMethod yX11_lacksToOpen, Cond.selects RX11 yX11_lacksToOpen yX11_lacksToOpen, Cond.code yX11_lacksToOpen cX11_lacksToOpen 4 (some .int), Cond.methodLink RX11 181 yX11_opensFor, Cond.instanceMethod yX11_opensFor, Cond.selects RX11 yX11_opensFor yX11_opensFor, Cond.code yX11_opensFor cX11_opensFor 5 (some .int), Cond.fieldLink RX11 175 "EqualPlainModel" "openedBy" "I", Cond.methodLink RL 117 yX10_opened, Cond.instanceMethod yX10_opened, Cond.selects RX10 yX10_opened yX10_opened, Cond.code yX10_opened cX10_opened 3 (some .int), Cond.methodLink RX10 208 yX4_most, Cond.instanceMethod yX4_most, Cond.selects RX4 yX4_most yX4_most, Cond.code yX4_most cX4_most 1 (some .int), Cond.methodLink RL 120 yX11_opened, Cond.instanceMethod yX11_opened, Cond.selects RX11 yX11_opened yX11_opened, Cond.code yX11_opened cX11_opened 4 (some .int)]
def wsL_law_r29 : List Cond := [Cond.methodLink RL 121 yX10_orders, Cond.instanceMethod yX10_orders, Cond.selects RX10 yX10_orders yX10_orders, Cond.code yX10_orders cX10_orders 1 (some .int), Cond.methodLink RX10 211 yX0_tell, Cond.instanceMethod yX0_tell, Cond.selects RX0 yX0_tell yX0_tell, Cond.code yX0_tell cX0_tell 5 (some .int), Cond.methodLink RX0 22 yX0_prepare, Cond.instanceMethod yX0_prepare, Cond.selects RX0 yX0_prepare yX0_prepare, Cond.code yX0_prepare cX0_prepare 7 none, Cond.methodLink RX0 39 Lib.Math.min.name, Cond.static Lib.Math.min.name, Cond.code Lib.Math.min.name Lib.Math.min.code 2 (some .int), Cond.methodLink RX0 34 yX1_size, Cond.methodLink RX0 44 yX1_homeOf, Cond.methodLink RX0 48 yX1_farOf, Cond.methodLink RX0 51 yX1_arePair, Cond.methodLink RX0 26 yX0_waysOf, Cond.instanceMethod yX0_waysOf, Cond.selects RX0 yX0_waysOf yX0_waysOf, Cond.code yX0_waysOf cX0_waysOf 7 (some .int), Cond.methodLink RX0 54 yJ6_bitCount_0f7a4]
def wsL_law_r30 : List Cond := [Cond.static yJ6_bitCount_0f7a4, Cond.initialized RJ6, Cond.code yJ6_bitCount_0f7a4 cJ6_bitCount_0f7a4 1 (some .int), Cond.constant RJ6 265 (1431655765), Cond.constant RJ6 266 (858993459), Cond.constant RJ6 267 (252645135), Cond.methodLink RX0 30 yX0_fits, Cond.instanceMethod yX0_fits, Cond.selects RX0 yX0_fits yX0_fits, Cond.code yX0_fits cX0_fits 4 (some .boolean), Cond.methodLink RL 124 yX11_orders, Cond.instanceMethod yX11_orders, Cond.selects RX11 yX11_orders yX11_orders, Cond.code yX11_orders cX11_orders 1 (some .int), Cond.methodLink RX11 193 yX11_findWays, Cond.instanceMethod yX11_findWays, Cond.selects RX11 yX11_findWays yX11_findWays, Cond.code yX11_findWays cX11_findWays 6 none, Cond.methodLink RX11 190 Lib.Math.min.name, Cond.methodLink RX11 184 yX11_bits, Cond.static yX11_bits, Cond.code yX11_bits cX11_bits 3 (some .int), Cond.methodLink RX11 187 yX11_isFreeBy, Cond.instanceMethod yX11_isFreeBy]
def wsL_law_r31 : List Cond := [Cond.selects RX11 yX11_isFreeBy yX11_isFreeBy, Cond.code yX11_isFreeBy cX11_isFreeBy 6 (some .boolean), Cond.methodLink RL 125 yX10_founders, Cond.instanceMethod yX10_founders, Cond.selects RX10 yX10_founders yX10_founders, Cond.code yX10_founders cX10_founders 2 (some .int), Cond.methodLink RL 128 yX11_founders, Cond.instanceMethod yX11_founders, Cond.selects RX11 yX11_founders yX11_founders, Cond.code yX11_founders cX11_founders 2 (some .int), Cond.methodLink RL 129 yX10_latest, Cond.instanceMethod yX10_latest, Cond.selects RX10 yX10_latest yX10_latest, Cond.code yX10_latest cX10_latest 2 (some .int), Cond.methodLink RX10 214 yX0_lastOne, Cond.instanceMethod yX0_lastOne, Cond.selects RX0 yX0_lastOne yX0_lastOne, Cond.code yX0_lastOne cX0_lastOne 4 (some .int), Cond.methodLink RL 132 yX11_latest, Cond.instanceMethod yX11_latest, Cond.selects RX11 yX11_latest yX11_latest, Cond.code yX11_latest cX11_latest 3 (some .int), Cond.methodLink RL 133 yX10_years, Cond.instanceMethod yX10_years]
def wsL_law_r32 : List Cond := [Cond.selects RX10 yX10_years yX10_years, Cond.code yX10_years cX10_years 2 (some .int), Cond.methodLink RX10 217 yX9_age, Cond.instanceMethod yX9_age, Cond.selects RX9 yX9_age yX9_age, Cond.code yX9_age cX9_age 1 (some .int), Cond.methodLink RX10 220 yX9_pass, Cond.instanceMethod yX9_pass, Cond.selects RX9 yX9_pass yX9_pass, Cond.code yX9_pass cX9_pass 7 (some .int), Cond.methodLink RX9 76 yX9_draw, Cond.instanceMethod yX9_draw, Cond.selects RX9 yX9_draw yX9_draw, Cond.code yX9_draw cX9_draw 1 (some .int), Cond.constant RX9 75 (1103515245), Cond.methodLink RX9 84 yX1_isFull, Cond.methodLink RX9 88 yX9_raise, Cond.methodLink RL 136 yX11_years, Cond.instanceMethod yX11_years, Cond.selects RX11 yX11_years yX11_years, Cond.code yX11_years cX11_years 4 (some .int), Cond.fieldLink RX11 201 "EqualPlainModel" "year" "I", Cond.methodLink RX11 204 yX11_aYear, Cond.instanceMethod yX11_aYear]
def wsL_law_r33 : List Cond := [Cond.selects RX11 yX11_aYear yX11_aYear, Cond.code yX11_aYear cX11_aYear 5 (some .boolean), Cond.methodLink RX11 198 yX11_draw, Cond.instanceMethod yX11_draw, Cond.selects RX11 yX11_draw yX11_draw, Cond.code yX11_draw cX11_draw 1 (some .int), Cond.constant RX11 197 (1103515245), Cond.methodLink RL 137 yX10_ahead, Cond.instanceMethod yX10_ahead, Cond.selects RX10 yX10_ahead yX10_ahead, Cond.code yX10_ahead cX10_ahead 3 (some .int), Cond.methodLink RX10 223 yX9_becomeAs, Cond.instanceMethod yX9_becomeAs, Cond.selects RX9 yX9_becomeAs yX9_becomeAs, Cond.code yX9_becomeAs cX9_becomeAs 2 none, Cond.methodLink RX9 56 arraycopyName, Cond.native arraycopyName, Cond.static arraycopyName, Cond.initialized "java/lang/System", Cond.methodLink RX9 52 yX1_becomeAs, Cond.methodLink RL 140 yX11_ahead, Cond.instanceMethod yX11_ahead, Cond.selects RX11 yX11_ahead yX11_ahead, Cond.code yX11_ahead cX11_ahead 5 (some .int)]
def wsL_law_r34 : List Cond := [Cond.methodLink RX11 220 yX11_marks, Cond.instanceMethod yX11_marks, Cond.selects RX11 yX11_marks yX11_marks, Cond.code yX11_marks cX11_marks 1 none, Cond.fieldLink RX11 208 "EqualPlainModel" "wasMany" "I", Cond.fieldLink RX11 211 "EqualPlainModel" "wasCoin" "I", Cond.fieldLink RX11 214 "EqualPlainModel" "wasYear" "I", Cond.fieldLink RX11 217 "EqualPlainModel" "wasZ" "I", Cond.methodLink RX11 223 yX11_goesBack, Cond.instanceMethod yX11_goesBack, Cond.selects RX11 yX11_goesBack yX11_goesBack, Cond.code yX11_goesBack cX11_goesBack 1 none, Cond.methodLink RL 141 yX10_when, Cond.instanceMethod yX10_when, Cond.selects RX10 yX10_when yX10_when, Cond.code yX10_when cX10_when 2 (some .int), Cond.methodLink RL 144 yX11_when, Cond.instanceMethod yX11_when, Cond.selects RX11 yX11_when yX11_when, Cond.code yX11_when cX11_when 2 (some .int), Cond.methodLink RL 145 yX10_strew, Cond.instanceMethod yX10_strew, Cond.selects RX10 yX10_strew yX10_strew, Cond.code yX10_strew cX10_strew 4 (some .int)]
def wsL_law_r35 : List Cond := [Cond.methodLink RX10 226 yX9_strewOne, Cond.instanceMethod yX9_strewOne, Cond.selects RX9 yX9_strewOne yX9_strewOne, Cond.code yX9_strewOne cX9_strewOne 3 none, Cond.methodLink RX9 91 yX1_size, Cond.methodLink RX9 94 yX1_stands, Cond.methodLink RX9 97 yX1_move, Cond.instanceMethod yX1_move, Cond.selects RX1 yX1_move yX1_move, Cond.code yX1_move cX1_move 3 none, Cond.methodLink RL 148 yX11_strew, Cond.instanceMethod yX11_strew, Cond.selects RX11 yX11_strew yX11_strew, Cond.code yX11_strew cX11_strew 5 (some .int), Cond.methodLink RL 149 yX10_seed, Cond.instanceMethod yX10_seed, Cond.selects RX10 yX10_seed yX10_seed, Cond.code yX10_seed cX10_seed 3 (some .int), Cond.methodLink RX10 229 yX9_luck, Cond.instanceMethod yX9_luck, Cond.selects RX9 yX9_luck yX9_luck, Cond.code yX9_luck cX9_luck 1 (some .int), Cond.methodLink RX10 232 yX9_setLuck, Cond.instanceMethod yX9_setLuck]
def wsL_law_r36 : List Cond := [Cond.selects RX9 yX9_setLuck yX9_setLuck, Cond.code yX9_setLuck cX9_setLuck 2 none, Cond.methodLink RL 152 yX11_seed, Cond.instanceMethod yX11_seed, Cond.selects RX11 yX11_seed yX11_seed, Cond.code yX11_seed cX11_seed 3 (some .int), Cond.methodLink RL 153 yX10_feed, Cond.instanceMethod yX10_feed, Cond.selects RX10 yX10_feed yX10_feed, Cond.code yX10_feed cX10_feed 4 (some .int), Cond.methodLink RX10 235 yX8_size, Cond.instanceMethod yX8_size, Cond.selects RX8 yX8_size yX8_size, Cond.code yX8_size cX8_size 1 (some .int), Cond.methodLink RX10 236 yX8_put, Cond.instanceMethod yX8_put, Cond.selects RX8 yX8_put yX8_put, Cond.code yX8_put cX8_put 2 none, Cond.methodLink RL 156 yX11_feed, Cond.instanceMethod yX11_feed, Cond.selects RX11 yX11_feed yX11_feed, Cond.code yX11_feed cX11_feed 4 (some .int), Cond.fieldLink RX11 226 "EqualPlainModel" "taped" "I", Cond.methodLink RL 157 yX10_wipe]
def wsL_law_r37 : List Cond := [Cond.instanceMethod yX10_wipe, Cond.selects RX10 yX10_wipe yX10_wipe, Cond.code yX10_wipe cX10_wipe 2 (some .int), Cond.methodLink RX10 238 yX8_empty, Cond.instanceMethod yX8_empty, Cond.selects RX8 yX8_empty yX8_empty, Cond.code yX8_empty cX8_empty 1 none, Cond.methodLink RL 160 yX11_wipe, Cond.instanceMethod yX11_wipe, Cond.selects RX11 yX11_wipe yX11_wipe, Cond.code yX11_wipe cX11_wipe 2 (some .int), Cond.methodLink RL 161 yX10_text, Cond.instanceMethod yX10_text, Cond.selects RX10 yX10_text yX10_text, Cond.code yX10_text cX10_text 2 (some .int), Cond.classLink RX10 241 RX5, Cond.instantiable RX5 6, Cond.initialized RX5, Cond.methodLink RX10 243 yX5_init, Cond.instanceMethod yX5_init, Cond.code yX5_init cX5_init 3 none, Cond.methodLink RX5 3 objectInit, Cond.fieldLink RX5 9 "EqualPlain$Scribe" "start" "I", Cond.fieldLink RX5 15 "EqualPlain$Scribe" "end" "I"]
def wsL_law_r38 : List Cond := [Cond.fieldLink RX5 18 "EqualPlain$Scribe" "type" "I", Cond.fieldLink RX5 21 "EqualPlain$Scribe" "value" "I", Cond.fieldLink RX5 24 "EqualPlain$Scribe" "tape" "LEqualPlain$Tape;", Cond.fieldLink RX5 28 "EqualPlain$Scribe" "into" "LEqualPlain$Town;", Cond.methodLink RX10 246 yX5_read, Cond.instanceMethod yX5_read, Cond.selects RX5 yX5_read yX5_read, Cond.code yX5_read cX5_read 2 (some .int), Cond.methodLink RX5 32 yX5_advance, Cond.instanceMethod yX5_advance, Cond.selects RX5 yX5_advance yX5_advance, Cond.code yX5_advance cX5_advance 2 none, Cond.constant RX5 98 (99999), Cond.methodLink RX5 118 yX8_size, Cond.methodLink RX5 109 yX8_at, Cond.instanceMethod yX8_at, Cond.selects RX8 yX8_at yX8_at, Cond.code yX8_at cX8_at 2 (some .int), Cond.methodLink RX5 121 yX5_isLetter, Cond.static yX5_isLetter, Cond.code yX5_isLetter cX5_isLetter 1 (some .boolean), Cond.methodLink RX5 124 yX5_isDigit, Cond.static yX5_isDigit, Cond.code yX5_isDigit cX5_isDigit 1 (some .boolean)]
def wsL_law_r39 : List Cond := [Cond.methodLink RX5 35 yX5_isItem, Cond.instanceMethod yX5_isItem, Cond.selects RX5 yX5_isItem yX5_isItem, Cond.code yX5_isItem cX5_isItem 2 (some .boolean), Cond.methodLink RX5 39 yX2_word, Cond.static yX2_word, Cond.code yX2_word cX2_word 1 (some (.object "java/lang/String")), Cond.methodLink RX5 45 yX5_isWord, Cond.instanceMethod yX5_isWord, Cond.selects RX5 yX5_isWord yX5_isWord, Cond.code yX5_isWord cX5_isWord 3 (some .boolean), Cond.methodLink RX5 103 yJ0_length_8abf5, Cond.instanceMethod yJ0_length_8abf5, Cond.selects RJ0 yJ0_length_8abf5 yJ0_length_8abf5, Cond.initialized RJ0, Cond.code yJ0_length_8abf5 cJ0_length_8abf5 1 (some .int), Cond.fieldLink RJ0 9 "java/lang/String" "value" "[B", Cond.methodLink RJ0 335 yJ0_coder_7d493, Cond.instanceMethod yJ0_coder_7d493, Cond.selects RJ0 yJ0_coder_7d493 yJ0_coder_7d493, Cond.code yJ0_coder_7d493 cJ0_coder_7d493 1 (some .byte), Cond.fieldLink RJ0 38 "java/lang/String" "COMPACT_STRINGS" "Z", Cond.fieldLink RJ0 15 "java/lang/String" "coder" "B", Cond.methodLink RX5 114 yJ0_charAt_5068e]
def wsL_law_r40 : List Cond := [Cond.instanceMethod yJ0_charAt_5068e, Cond.selects RJ0 yJ0_charAt_5068e yJ0_charAt_5068e, Cond.code yJ0_charAt_5068e cJ0_charAt_5068e 2 (some .char), Cond.methodLink RJ0 492 yJ0_isLatin1_aae02, Cond.instanceMethod yJ0_isLatin1_aae02, Cond.selects RJ0 yJ0_isLatin1_aae02 yJ0_isLatin1_aae02, Cond.code yJ0_isLatin1_aae02 cJ0_isLatin1_aae02 1 (some .boolean), Cond.methodLink RJ0 495 yJ1_charAt_3b067, Cond.static yJ1_charAt_3b067, Cond.initialized RJ1, Cond.code yJ1_charAt_3b067 cJ1_charAt_3b067 2 (some .char), Cond.methodLink RJ1 9 yJ0_checkIndex_df160, Cond.static yJ0_checkIndex_df160, Cond.code yJ0_checkIndex_df160 cJ0_checkIndex_df160 2 none, Cond.fieldLink RJ0 1053 "jdk/internal/util/Preconditions" "SIOOBE_FORMATTER" "Ljava/util/function/BiFunction;", Cond.methodLink RJ0 1059 yJ3_checkIndex_8e157, Cond.static yJ3_checkIndex_8e157, Cond.initialized RJ3, Cond.code yJ3_checkIndex_8e157 cJ3_checkIndex_8e157 3 (some .int), Cond.methodLink RJ0 498 yJ2_charAt_3b067, Cond.static yJ2_charAt_3b067, Cond.initialized RJ2, Cond.code yJ2_charAt_3b067 cJ2_charAt_3b067 2 (some .char), Cond.methodLink RJ2 67 yJ2_checkIndex_2214a]
def wsL_law_r41 : List Cond := [Cond.static yJ2_checkIndex_2214a, Cond.code yJ2_checkIndex_2214a cJ2_checkIndex_2214a 2 none, Cond.methodLink RJ2 48 yJ2_length_9d52b, Cond.static yJ2_length_9d52b, Cond.code yJ2_length_9d52b cJ2_length_9d52b 1 (some .int), Cond.methodLink RJ2 414 yJ0_checkIndex_df160, Cond.methodLink RJ2 71 yJ2_getChar_3b067, Cond.static yJ2_getChar_3b067, Cond.code yJ2_getChar_3b067 cJ2_getChar_3b067 2 (some .char), Cond.fieldLink RJ2 44 "java/lang/StringUTF16" "$assertionsDisabled" "Z", Cond.fieldLink RJ2 59 "java/lang/StringUTF16" "HI_BYTE_SHIFT" "I", Cond.fieldLink RJ2 63 "java/lang/StringUTF16" "LO_BYTE_SHIFT" "I", Cond.methodLink RX5 49 yX9_houses, Cond.methodLink RX5 55 yX1_isFull, Cond.methodLink RX5 60 yX5_isHouseItem, Cond.instanceMethod yX5_isHouseItem, Cond.selects RX5 yX5_isHouseItem yX5_isHouseItem, Cond.code yX5_isHouseItem cX5_isHouseItem 3 (some .boolean), Cond.methodLink RX5 76 yX5_isNextWord, Cond.instanceMethod yX5_isNextWord, Cond.selects RX5 yX5_isNextWord yX5_isNextWord, Cond.code yX5_isNextWord cX5_isNextWord 2 (some .boolean), Cond.methodLink RX5 79 yX5_isNextNumber, Cond.instanceMethod yX5_isNextNumber]
def wsL_law_r42 : List Cond := [Cond.selects RX5 yX5_isNextNumber yX5_isNextNumber, Cond.code yX5_isNextNumber cX5_isNextNumber 2 (some .boolean), Cond.methodLink RX5 86 yX1_stands, Cond.methodLink RX5 89 yX1_put, Cond.methodLink RX5 66 yX5_isWorthItem, Cond.instanceMethod yX5_isWorthItem, Cond.selects RX5 yX5_isWorthItem yX5_isWorthItem, Cond.code yX5_isWorthItem cX5_isWorthItem 3 (some .boolean), Cond.methodLink RX5 95 yX9_setWorth, Cond.methodLink RX5 71 yX5_isCoinItem, Cond.instanceMethod yX5_isCoinItem, Cond.selects RX5 yX5_isCoinItem yX5_isCoinItem, Cond.code yX5_isCoinItem cX5_isCoinItem 1 (some .boolean), Cond.methodLink RX5 99 yX9_setPurse, Cond.methodLink RL 164 yX11_text, Cond.instanceMethod yX11_text, Cond.selects RX11 yX11_text yX11_text, Cond.code yX11_text cX11_text 3 (some .int), Cond.fieldLink RX11 238 "EqualPlainModel" "isWrong" "Z", Cond.fieldLink RX11 229 "EqualPlainModel" "to" "I", Cond.fieldLink RX11 232 "EqualPlainModel" "from" "I", Cond.methodLink RX11 255 yX11_next, Cond.instanceMethod yX11_next, Cond.selects RX11 yX11_next yX11_next]
def wsL_law_r43 : List Cond := [Cond.code yX11_next cX11_next 3 none, Cond.methodLink RX11 235 yX11_isByte, Cond.instanceMethod yX11_isByte, Cond.selects RX11 yX11_isByte yX11_isByte, Cond.code yX11_isByte cX11_isByte 4 (some .boolean), Cond.methodLink RX11 303 yX11_item, Cond.instanceMethod yX11_item, Cond.selects RX11 yX11_item yX11_item, Cond.code yX11_item cX11_item 3 none, Cond.methodLink RX11 289 yX11_kindHere, Cond.instanceMethod yX11_kindHere, Cond.selects RX11 yX11_kindHere yX11_kindHere, Cond.code yX11_kindHere cX11_kindHere 2 (some .int), Cond.methodLink RX11 275 yX11_wordOf, Cond.static yX11_wordOf, Cond.code yX11_wordOf cX11_wordOf 1 (some (.object "java/lang/String")), Cond.methodLink RX11 251 yX11_isWord, Cond.instanceMethod yX11_isWord, Cond.selects RX11 yX11_isWord yX11_isWord, Cond.code yX11_isWord cX11_isWord 4 (some .boolean), Cond.methodLink RX11 242 yJ0_length_8abf5, Cond.methodLink RX11 247 yJ0_charAt_5068e, Cond.methodLink RX11 292 yX11_houseTold, Cond.instanceMethod yX11_houseTold]
def wsL_law_r44 : List Cond := [Cond.selects RX11 yX11_houseTold yX11_houseTold, Cond.code yX11_houseTold cX11_houseTold 4 none, Cond.methodLink RX11 281 yX11_wants, Cond.instanceMethod yX11_wants, Cond.selects RX11 yX11_wants yX11_wants, Cond.code yX11_wants cX11_wants 2 none, Cond.methodLink RX11 285 yX11_number, Cond.instanceMethod yX11_number, Cond.selects RX11 yX11_number yX11_number, Cond.code yX11_number cX11_number 3 (some .int), Cond.methodLink RX11 258 yX11_numberHere, Cond.instanceMethod yX11_numberHere, Cond.selects RX11 yX11_numberHere yX11_numberHere, Cond.code yX11_numberHere cX11_numberHere 3 (some .int), Cond.methodLink RX11 296 yX11_takes, Cond.instanceMethod yX11_takes, Cond.selects RX11 yX11_takes yX11_takes, Cond.code yX11_takes cX11_takes 3 (some .boolean), Cond.methodLink RX11 299 yX11_worthTold, Cond.instanceMethod yX11_worthTold, Cond.selects RX11 yX11_worthTold yX11_worthTold, Cond.code yX11_worthTold cX11_worthTold 4 none, Cond.methodLink RL 165 yX10_hold, Cond.instanceMethod yX10_hold]
def wsL_law_r45 : List Cond := [Cond.selects RX10 yX10_hold yX10_hold, Cond.code yX10_hold cX10_hold 3 (some .int), Cond.methodLink RX10 249 yX10_isSpot, Cond.static yX10_isSpot, Cond.code yX10_isSpot cX10_isSpot 1 (some .boolean), Cond.methodLink RX10 252 yX9_setSpot, Cond.instanceMethod yX9_setSpot, Cond.selects RX9 yX9_setSpot yX9_setSpot, Cond.code yX9_setSpot cX9_setSpot 3 none, Cond.methodLink RL 168 yX11_hold, Cond.instanceMethod yX11_hold, Cond.selects RX11 yX11_hold yX11_hold, Cond.code yX11_hold cX11_hold 3 (some .int), Cond.methodLink RL 169 yX10_as, Cond.instanceMethod yX10_as, Cond.selects RX10 yX10_as yX10_as, Cond.code yX10_as cX10_as 4 (some .int), Cond.constant RX10 258 (-1000006), Cond.constant RX10 262 (-1000003), Cond.methodLink RX10 255 yX9_spotOf, Cond.instanceMethod yX9_spotOf, Cond.selects RX9 yX9_spotOf yX9_spotOf, Cond.code yX9_spotOf cX9_spotOf 2 (some .int), Cond.methodLink RX10 259 yX2_isUnder]
def wsL_law_r46 : List Cond := [Cond.static yX2_isUnder, Cond.code yX2_isUnder cX2_isUnder 4 (some .boolean), Cond.methodLink RX2 19 yX2_above, Cond.static yX2_above, Cond.code yX2_above cX2_above 1 (some .int), Cond.methodLink RL 172 yX11_as, Cond.instanceMethod yX11_as, Cond.selects RX11 yX11_as yX11_as, Cond.code yX11_as cX11_as 3 (some .int), Cond.methodLink RX11 308 yX11_isUnder, Cond.static yX11_isUnder, Cond.code yX11_isUnder cX11_isUnder 3 (some .boolean), Cond.methodLink RX11 83 yX11_above, Cond.static yX11_above, Cond.code yX11_above cX11_above 1 (some .int), Cond.methodLink RL 173 yX10_sheet, Cond.instanceMethod yX10_sheet, Cond.selects RX10 yX10_sheet yX10_sheet, Cond.code yX10_sheet cX10_sheet 5 (some .int), Cond.constant RX10 267 (-1000007), Cond.methodLink RX10 263 yX10_sheetAt, Cond.instanceMethod yX10_sheetAt, Cond.selects RX10 yX10_sheetAt yX10_sheetAt, Cond.code yX10_sheetAt cX10_sheetAt 2 (some (.object "EqualPlain$Sheet"))]
def wsL_law_r47 : List Cond := [Cond.methodLink RX10 268 yX6_rule, Cond.instanceMethod yX6_rule, Cond.selects RX6 yX6_rule yX6_rule, Cond.code yX6_rule cX6_rule 3 none, Cond.methodLink RX6 22 yJ7_fill_53178, Cond.methodLink RX10 271 yX6_size, Cond.instanceMethod yX6_size, Cond.selects RX6 yX6_size yX6_size, Cond.code yX6_size cX6_size 1 (some .int), Cond.methodLink RL 176 yX11_sheet, Cond.instanceMethod yX11_sheet, Cond.selects RX11 yX11_sheet yX11_sheet, Cond.code yX11_sheet cX11_sheet 6 (some .int), Cond.methodLink RX11 311 yX11_isSheet, Cond.static yX11_isSheet, Cond.code yX11_isSheet cX11_isSheet 1 (some .boolean), Cond.methodLink RL 177 yX10_write, Cond.instanceMethod yX10_write, Cond.selects RX10 yX10_write yX10_write, Cond.code yX10_write cX10_write 5 (some .int), Cond.methodLink RX10 272 yX6_isMissing, Cond.instanceMethod yX6_isMissing, Cond.selects RX6 yX6_isMissing yX6_isMissing, Cond.code yX6_isMissing cX6_isMissing 1 (some .boolean)]
def wsL_law_r48 : List Cond := [Cond.methodLink RX10 275 yX6_set, Cond.instanceMethod yX6_set, Cond.selects RX6 yX6_set yX6_set, Cond.code yX6_set cX6_set 3 none, Cond.methodLink RL 180 yX11_write, Cond.instanceMethod yX11_write, Cond.selects RX11 yX11_write yX11_write, Cond.code yX11_write cX11_write 5 (some .int), Cond.methodLink RX11 314 yX11_lacks, Cond.instanceMethod yX11_lacks, Cond.selects RX11 yX11_lacks yX11_lacks, Cond.code yX11_lacks cX11_lacks 2 (some .int), Cond.methodLink RX11 317 yX11_cut, Cond.static yX11_cut, Cond.code yX11_cut cX11_cut 2 (some .int), Cond.methodLink RL 181 yX10_copy, Cond.instanceMethod yX10_copy, Cond.selects RX10 yX10_copy yX10_copy, Cond.code yX10_copy cX10_copy 8 (some .int), Cond.methodLink RX10 278 yX6_bits, Cond.instanceMethod yX6_bits, Cond.selects RX6 yX6_bits yX6_bits, Cond.code yX6_bits cX6_bits 1 (some .int), Cond.methodLink RX10 281 yX6_holds]
def wsL_law_r49 : List Cond := [Cond.instanceMethod yX6_holds, Cond.selects RX6 yX6_holds yX6_holds, Cond.code yX6_holds cX6_holds 3 (some .boolean), Cond.methodLink RX10 284 yX6_take, Cond.instanceMethod yX6_take, Cond.selects RX6 yX6_take yX6_take, Cond.code yX6_take cX6_take 5 none, Cond.methodLink RX6 32 arraycopyName, Cond.methodLink RX6 28 yX6_holds, Cond.methodLink RL 185 yX11_copy, Cond.instanceMethod yX11_copy, Cond.selects RX11 yX11_copy yX11_copy, Cond.code yX11_copy cX11_copy 8 (some .int), Cond.methodLink RL 186 yX10_load, Cond.instanceMethod yX10_load, Cond.selects RX10 yX10_load yX10_load, Cond.code yX10_load cX10_load 5 (some .int), Cond.methodLink RX10 288 yX6_get, Cond.instanceMethod yX6_get, Cond.selects RX6 yX6_get yX6_get, Cond.code yX6_get cX6_get 2 (some .int), Cond.methodLink RL 189 yX11_load, Cond.instanceMethod yX11_load, Cond.selects RX11 yX11_load yX11_load]
def wsL_law_r50 : List Cond := [Cond.code yX11_load cX11_load 4 (some .int), Cond.methodLink RL 190 yX10_judge, Cond.instanceMethod yX10_judge, Cond.selects RX10 yX10_judge yX10_judge, Cond.code yX10_judge cX10_judge 6 (some .int), Cond.methodLink RL 193 yX11_judge, Cond.instanceMethod yX11_judge, Cond.selects RX11 yX11_judge yX11_judge, Cond.code yX11_judge cX11_judge 5 (some .int), Cond.methodLink RL 194 yX10_image, Cond.instanceMethod yX10_image, Cond.selects RX10 yX10_image yX10_image, Cond.code yX10_image cX10_image 1 (some .int), Cond.methodLink RL 197 yX11_image, Cond.instanceMethod yX11_image, Cond.selects RX11 yX11_image yX11_image, Cond.code yX11_image cX11_image 1 (some .int), Cond.fieldLink RX11 320 "EqualPlainModel" "keptMany" "I", Cond.fieldLink RX11 327 "EqualPlainModel" "keptCoin" "I", Cond.fieldLink RX11 330 "EqualPlainModel" "keptYear" "I", Cond.fieldLink RX11 333 "EqualPlainModel" "keptZ" "I", Cond.fieldLink RX11 336 "EqualPlainModel" "isKept" "Z", Cond.methodLink RX11 323 yX11_row_, Cond.static yX11_row_]
def wsL_law_r51 : List Cond := [Cond.code yX11_row_ cX11_row_ 4 none, Cond.methodLink RL 198 yX10_undo, Cond.instanceMethod yX10_undo, Cond.selects RX10 yX10_undo yX10_undo, Cond.code yX10_undo cX10_undo 1 (some .int), Cond.methodLink RL 201 yX11_undo, Cond.instanceMethod yX11_undo, Cond.selects RX11 yX11_undo yX11_undo, Cond.code yX11_undo cX11_undo 1 (some .int), Cond.methodLink RL 202 yX10_tear, Cond.instanceMethod yX10_tear, Cond.selects RX10 yX10_tear yX10_tear, Cond.code yX10_tear cX10_tear 2 (some .int), Cond.methodLink RL 205 yX11_tear, Cond.instanceMethod yX11_tear, Cond.selects RX11 yX11_tear yX11_tear, Cond.code yX11_tear cX11_tear 2 (some .int), Cond.methodLink RL 206 yX10_count, Cond.instanceMethod yX10_count, Cond.selects RX10 yX10_count yX10_count, Cond.code yX10_count cX10_count 2 (some .int), Cond.methodLink RX10 291 yX1_countPairs, Cond.instanceMethod yX1_countPairs, Cond.selects RX1 yX1_countPairs yX1_countPairs]
def wsL_law_r52 : List Cond := [Cond.code yX1_countPairs cX1_countPairs 3 (some .int), Cond.methodLink RX1 47 yX1_partners, Cond.methodLink RX1 51 yJ6_bitCount_0f7a4, Cond.methodLink RX10 294 yX9_allWorth, Cond.instanceMethod yX9_allWorth, Cond.selects RX9 yX9_allWorth yX9_allWorth, Cond.code yX9_allWorth cX9_allWorth 3 (some .int), Cond.methodLink RX10 297 yX9_filledSpots, Cond.instanceMethod yX9_filledSpots, Cond.selects RX9 yX9_filledSpots yX9_filledSpots, Cond.code yX9_filledSpots cX9_filledSpots 3 (some .int), Cond.methodLink RL 209 yX11_count, Cond.instanceMethod yX11_count, Cond.selects RX11 yX11_count yX11_count, Cond.code yX11_count cX11_count 2 (some .int), Cond.methodLink RX11 339 yX11_allPairs, Cond.instanceMethod yX11_allPairs, Cond.selects RX11 yX11_allPairs yX11_allPairs, Cond.code yX11_allPairs cX11_allPairs 3 (some .int), Cond.methodLink RX11 342 yX11_allWorth, Cond.instanceMethod yX11_allWorth, Cond.selects RX11 yX11_allWorth yX11_allWorth, Cond.code yX11_allWorth cX11_allWorth 3 (some .int), Cond.methodLink RX11 345 yX11_holding]
def wsL_law_r53 : List Cond := [Cond.instanceMethod yX11_holding, Cond.selects RX11 yX11_holding yX11_holding, Cond.code yX11_holding cX11_holding 3 (some .int), Cond.methodLink RL 210 yX10_status, Cond.instanceMethod yX10_status, Cond.selects RX10 yX10_status yX10_status, Cond.code yX10_status cX10_status 4 (some .int), Cond.methodLink RL 213 yX11_status, Cond.instanceMethod yX11_status, Cond.selects RX11 yX11_status yX11_status, Cond.code yX11_status cX11_status 4 (some .int)]
def wsL_law : List Cond := (wsL_law_r1 ++ (wsL_law_r2 ++ (wsL_law_r3 ++ (wsL_law_r4 ++ (wsL_law_r5 ++ (wsL_law_r6 ++ (wsL_law_r7 ++ (wsL_law_r8 ++ (wsL_law_r9 ++ (wsL_law_r10 ++ (wsL_law_r11 ++ (wsL_law_r12 ++ (wsL_law_r13 ++ (wsL_law_r14 ++ (wsL_law_r15 ++ (wsL_law_r16 ++ (wsL_law_r17 ++ (wsL_law_r18 ++ (wsL_law_r19 ++ (wsL_law_r20 ++ (wsL_law_r21 ++ (wsL_law_r22 ++ (wsL_law_r23 ++ (wsL_law_r24 ++ (wsL_law_r25 ++ (wsL_law_r26 ++ (wsL_law_r27 ++ (wsL_law_r28 ++ (wsL_law_r29 ++ (wsL_law_r30 ++ (wsL_law_r31 ++ (wsL_law_r32 ++ (wsL_law_r33 ++ (wsL_law_r34 ++ (wsL_law_r35 ++ (wsL_law_r36 ++ (wsL_law_r37 ++ (wsL_law_r38 ++ (wsL_law_r39 ++ (wsL_law_r40 ++ (wsL_law_r41 ++ (wsL_law_r42 ++ (wsL_law_r43 ++ (wsL_law_r44 ++ (wsL_law_r45 ++ (wsL_law_r46 ++ (wsL_law_r47 ++ (wsL_law_r48 ++ (wsL_law_r49 ++ (wsL_law_r50 ++ (wsL_law_r51 ++ (wsL_law_r52 ++ wsL_law_r53)))))))))))))))))))))))))))))))))))))))))))))))))))) ++ wsX100 ++ wsX110 ++ wsX90 ++ wsX80 ++ wsX70 ++ wsX30 ++ wsX40 ++ wsX00 ++ wsX60 ++ wsX10 ++ wsX50 ++ ([] : List Cond)
theorem inlX0 : ∀ w ∈ wsX00, w ∈ wsL_law := fun _ h => List.mem_append_left _ (List.mem_append_left _ (List.mem_append_left _ (List.mem_append_left _ (List.mem_append_right _ h))))
theorem inlX1 : ∀ w ∈ wsX10, w ∈ wsL_law := fun _ h => List.mem_append_left _ (List.mem_append_left _ (List.mem_append_right _ h))
theorem inlX3 : ∀ w ∈ wsX30, w ∈ wsL_law := fun _ h => List.mem_append_left _ (List.mem_append_left _ (List.mem_append_left _ (List.mem_append_left _ (List.mem_append_left _ (List.mem_append_left _ (List.mem_append_right _ h))))))
theorem inlX4 : ∀ w ∈ wsX40, w ∈ wsL_law := fun _ h => List.mem_append_left _ (List.mem_append_left _ (List.mem_append_left _ (List.mem_append_left _ (List.mem_append_left _ (List.mem_append_right _ h)))))
theorem inlX5 : ∀ w ∈ wsX50, w ∈ wsL_law := fun _ h => List.mem_append_left _ (List.mem_append_right _ h)
theorem inlX6 : ∀ w ∈ wsX60, w ∈ wsL_law := fun _ h => List.mem_append_left _ (List.mem_append_left _ (List.mem_append_left _ (List.mem_append_right _ h)))
theorem inlX7 : ∀ w ∈ wsX70, w ∈ wsL_law := fun _ h => List.mem_append_left _ (List.mem_append_left _ (List.mem_append_left _ (List.mem_append_left _ (List.mem_append_left _ (List.mem_append_left _ (List.mem_append_left _ (List.mem_append_right _ h)))))))
theorem inlX8 : ∀ w ∈ wsX80, w ∈ wsL_law := fun _ h => List.mem_append_left _ (List.mem_append_left _ (List.mem_append_left _ (List.mem_append_left _ (List.mem_append_left _ (List.mem_append_left _ (List.mem_append_left _ (List.mem_append_left _ (List.mem_append_right _ h))))))))
theorem inlX9 : ∀ w ∈ wsX90, w ∈ wsL_law := fun _ h => List.mem_append_left _ (List.mem_append_left _ (List.mem_append_left _ (List.mem_append_left _ (List.mem_append_left _ (List.mem_append_left _ (List.mem_append_left _ (List.mem_append_left _ (List.mem_append_left _ (List.mem_append_right _ h)))))))))
theorem inlX10 : ∀ w ∈ wsX100, w ∈ wsL_law := fun _ h => List.mem_append_left _ (List.mem_append_left _ (List.mem_append_left _ (List.mem_append_left _ (List.mem_append_left _ (List.mem_append_left _ (List.mem_append_left _ (List.mem_append_left _ (List.mem_append_left _ (List.mem_append_left _ (List.mem_append_left _ (List.mem_append_right _ h)))))))))))
theorem inlX11 : ∀ w ∈ wsX110, w ∈ wsL_law := fun _ h => List.mem_append_left _ (List.mem_append_left _ (List.mem_append_left _ (List.mem_append_left _ (List.mem_append_left _ (List.mem_append_left _ (List.mem_append_left _ (List.mem_append_left _ (List.mem_append_left _ (List.mem_append_left _ (List.mem_append_right _ h))))))))))
theorem qm_1 : ∀ w ∈ wsL_law_r1, w ∈ wsL_law := fun _ h => List.mem_append_left _ (List.mem_append_left _ (List.mem_append_left _ (List.mem_append_left _ (List.mem_append_left _ (List.mem_append_left _ (List.mem_append_left _ (List.mem_append_left _ (List.mem_append_left _ (List.mem_append_left _ (List.mem_append_left _ (List.mem_append_left _ (List.mem_append_left _ h))))))))))))
theorem qm_2 : ∀ w ∈ wsL_law_r2, w ∈ wsL_law := fun _ h => List.mem_append_left _ (List.mem_append_left _ (List.mem_append_left _ (List.mem_append_left _ (List.mem_append_left _ (List.mem_append_left _ (List.mem_append_left _ (List.mem_append_left _ (List.mem_append_left _ (List.mem_append_left _ (List.mem_append_left _ (List.mem_append_left _ (List.mem_append_right _ (List.mem_append_left _ h)))))))))))))
theorem qm_3 : ∀ w ∈ wsL_law_r3, w ∈ wsL_law := fun _ h => List.mem_append_left _ (List.mem_append_left _ (List.mem_append_left _ (List.mem_append_left _ (List.mem_append_left _ (List.mem_append_left _ (List.mem_append_left _ (List.mem_append_left _ (List.mem_append_left _ (List.mem_append_left _ (List.mem_append_left _ (List.mem_append_left _ (List.mem_append_right _ (List.mem_append_right _ (List.mem_append_left _ h))))))))))))))
theorem qm_4 : ∀ w ∈ wsL_law_r4, w ∈ wsL_law := fun _ h => List.mem_append_left _ (List.mem_append_left _ (List.mem_append_left _ (List.mem_append_left _ (List.mem_append_left _ (List.mem_append_left _ (List.mem_append_left _ (List.mem_append_left _ (List.mem_append_left _ (List.mem_append_left _ (List.mem_append_left _ (List.mem_append_left _ (List.mem_append_right _ (List.mem_append_right _ (List.mem_append_right _ (List.mem_append_left _ h)))))))))))))))
theorem qm_5 : ∀ w ∈ wsL_law_r5, w ∈ wsL_law := fun _ h => List.mem_append_left _ (List.mem_append_left _ (List.mem_append_left _ (List.mem_append_left _ (List.mem_append_left _ (List.mem_append_left _ (List.mem_append_left _ (List.mem_append_left _ (List.mem_append_left _ (List.mem_append_left _ (List.mem_append_left _ (List.mem_append_left _ (List.mem_append_right _ (List.mem_append_right _ (List.mem_append_right _ (List.mem_append_right _ (List.mem_append_left _ h))))))))))))))))
theorem qm_6 : ∀ w ∈ wsL_law_r6, w ∈ wsL_law := fun _ h => List.mem_append_left _ (List.mem_append_left _ (List.mem_append_left _ (List.mem_append_left _ (List.mem_append_left _ (List.mem_append_left _ (List.mem_append_left _ (List.mem_append_left _ (List.mem_append_left _ (List.mem_append_left _ (List.mem_append_left _ (List.mem_append_left _ (List.mem_append_right _ (List.mem_append_right _ (List.mem_append_right _ (List.mem_append_right _ (List.mem_append_right _ (List.mem_append_left _ h)))))))))))))))))
theorem qm_7 : ∀ w ∈ wsL_law_r7, w ∈ wsL_law := fun _ h => List.mem_append_left _ (List.mem_append_left _ (List.mem_append_left _ (List.mem_append_left _ (List.mem_append_left _ (List.mem_append_left _ (List.mem_append_left _ (List.mem_append_left _ (List.mem_append_left _ (List.mem_append_left _ (List.mem_append_left _ (List.mem_append_left _ (List.mem_append_right _ (List.mem_append_right _ (List.mem_append_right _ (List.mem_append_right _ (List.mem_append_right _ (List.mem_append_right _ (List.mem_append_left _ h))))))))))))))))))
theorem qm_8 : ∀ w ∈ wsL_law_r8, w ∈ wsL_law := fun _ h => List.mem_append_left _ (List.mem_append_left _ (List.mem_append_left _ (List.mem_append_left _ (List.mem_append_left _ (List.mem_append_left _ (List.mem_append_left _ (List.mem_append_left _ (List.mem_append_left _ (List.mem_append_left _ (List.mem_append_left _ (List.mem_append_left _ (List.mem_append_right _ (List.mem_append_right _ (List.mem_append_right _ (List.mem_append_right _ (List.mem_append_right _ (List.mem_append_right _ (List.mem_append_right _ (List.mem_append_left _ h)))))))))))))))))))
theorem qm_9 : ∀ w ∈ wsL_law_r9, w ∈ wsL_law := fun _ h => List.mem_append_left _ (List.mem_append_left _ (List.mem_append_left _ (List.mem_append_left _ (List.mem_append_left _ (List.mem_append_left _ (List.mem_append_left _ (List.mem_append_left _ (List.mem_append_left _ (List.mem_append_left _ (List.mem_append_left _ (List.mem_append_left _ (List.mem_append_right _ (List.mem_append_right _ (List.mem_append_right _ (List.mem_append_right _ (List.mem_append_right _ (List.mem_append_right _ (List.mem_append_right _ (List.mem_append_right _ (List.mem_append_left _ h))))))))))))))))))))
theorem qm_10 : ∀ w ∈ wsL_law_r10, w ∈ wsL_law := fun _ h => List.mem_append_left _ (List.mem_append_left _ (List.mem_append_left _ (List.mem_append_left _ (List.mem_append_left _ (List.mem_append_left _ (List.mem_append_left _ (List.mem_append_left _ (List.mem_append_left _ (List.mem_append_left _ (List.mem_append_left _ (List.mem_append_left _ (List.mem_append_right _ (List.mem_append_right _ (List.mem_append_right _ (List.mem_append_right _ (List.mem_append_right _ (List.mem_append_right _ (List.mem_append_right _ (List.mem_append_right _ (List.mem_append_right _ (List.mem_append_left _ h)))))))))))))))))))))
theorem qm_11 : ∀ w ∈ wsL_law_r11, w ∈ wsL_law := fun _ h => List.mem_append_left _ (List.mem_append_left _ (List.mem_append_left _ (List.mem_append_left _ (List.mem_append_left _ (List.mem_append_left _ (List.mem_append_left _ (List.mem_append_left _ (List.mem_append_left _ (List.mem_append_left _ (List.mem_append_left _ (List.mem_append_left _ (List.mem_append_right _ (List.mem_append_right _ (List.mem_append_right _ (List.mem_append_right _ (List.mem_append_right _ (List.mem_append_right _ (List.mem_append_right _ (List.mem_append_right _ (List.mem_append_right _ (List.mem_append_right _ (List.mem_append_left _ h))))))))))))))))))))))
theorem qm_12 : ∀ w ∈ wsL_law_r12, w ∈ wsL_law := fun _ h => List.mem_append_left _ (List.mem_append_left _ (List.mem_append_left _ (List.mem_append_left _ (List.mem_append_left _ (List.mem_append_left _ (List.mem_append_left _ (List.mem_append_left _ (List.mem_append_left _ (List.mem_append_left _ (List.mem_append_left _ (List.mem_append_left _ (List.mem_append_right _ (List.mem_append_right _ (List.mem_append_right _ (List.mem_append_right _ (List.mem_append_right _ (List.mem_append_right _ (List.mem_append_right _ (List.mem_append_right _ (List.mem_append_right _ (List.mem_append_right _ (List.mem_append_right _ (List.mem_append_left _ h)))))))))))))))))))))))
theorem qm_13 : ∀ w ∈ wsL_law_r13, w ∈ wsL_law := fun _ h => List.mem_append_left _ (List.mem_append_left _ (List.mem_append_left _ (List.mem_append_left _ (List.mem_append_left _ (List.mem_append_left _ (List.mem_append_left _ (List.mem_append_left _ (List.mem_append_left _ (List.mem_append_left _ (List.mem_append_left _ (List.mem_append_left _ (List.mem_append_right _ (List.mem_append_right _ (List.mem_append_right _ (List.mem_append_right _ (List.mem_append_right _ (List.mem_append_right _ (List.mem_append_right _ (List.mem_append_right _ (List.mem_append_right _ (List.mem_append_right _ (List.mem_append_right _ (List.mem_append_right _ (List.mem_append_left _ h))))))))))))))))))))))))
theorem qm_14 : ∀ w ∈ wsL_law_r14, w ∈ wsL_law := fun _ h => List.mem_append_left _ (List.mem_append_left _ (List.mem_append_left _ (List.mem_append_left _ (List.mem_append_left _ (List.mem_append_left _ (List.mem_append_left _ (List.mem_append_left _ (List.mem_append_left _ (List.mem_append_left _ (List.mem_append_left _ (List.mem_append_left _ (List.mem_append_right _ (List.mem_append_right _ (List.mem_append_right _ (List.mem_append_right _ (List.mem_append_right _ (List.mem_append_right _ (List.mem_append_right _ (List.mem_append_right _ (List.mem_append_right _ (List.mem_append_right _ (List.mem_append_right _ (List.mem_append_right _ (List.mem_append_right _ (List.mem_append_left _ h)))))))))))))))))))))))))
theorem qm_15 : ∀ w ∈ wsL_law_r15, w ∈ wsL_law := fun _ h => List.mem_append_left _ (List.mem_append_left _ (List.mem_append_left _ (List.mem_append_left _ (List.mem_append_left _ (List.mem_append_left _ (List.mem_append_left _ (List.mem_append_left _ (List.mem_append_left _ (List.mem_append_left _ (List.mem_append_left _ (List.mem_append_left _ (List.mem_append_right _ (List.mem_append_right _ (List.mem_append_right _ (List.mem_append_right _ (List.mem_append_right _ (List.mem_append_right _ (List.mem_append_right _ (List.mem_append_right _ (List.mem_append_right _ (List.mem_append_right _ (List.mem_append_right _ (List.mem_append_right _ (List.mem_append_right _ (List.mem_append_right _ (List.mem_append_left _ h))))))))))))))))))))))))))
theorem qm_16 : ∀ w ∈ wsL_law_r16, w ∈ wsL_law := fun _ h => List.mem_append_left _ (List.mem_append_left _ (List.mem_append_left _ (List.mem_append_left _ (List.mem_append_left _ (List.mem_append_left _ (List.mem_append_left _ (List.mem_append_left _ (List.mem_append_left _ (List.mem_append_left _ (List.mem_append_left _ (List.mem_append_left _ (List.mem_append_right _ (List.mem_append_right _ (List.mem_append_right _ (List.mem_append_right _ (List.mem_append_right _ (List.mem_append_right _ (List.mem_append_right _ (List.mem_append_right _ (List.mem_append_right _ (List.mem_append_right _ (List.mem_append_right _ (List.mem_append_right _ (List.mem_append_right _ (List.mem_append_right _ (List.mem_append_right _ (List.mem_append_left _ h)))))))))))))))))))))))))))
theorem qm_17 : ∀ w ∈ wsL_law_r17, w ∈ wsL_law := fun _ h => List.mem_append_left _ (List.mem_append_left _ (List.mem_append_left _ (List.mem_append_left _ (List.mem_append_left _ (List.mem_append_left _ (List.mem_append_left _ (List.mem_append_left _ (List.mem_append_left _ (List.mem_append_left _ (List.mem_append_left _ (List.mem_append_left _ (List.mem_append_right _ (List.mem_append_right _ (List.mem_append_right _ (List.mem_append_right _ (List.mem_append_right _ (List.mem_append_right _ (List.mem_append_right _ (List.mem_append_right _ (List.mem_append_right _ (List.mem_append_right _ (List.mem_append_right _ (List.mem_append_right _ (List.mem_append_right _ (List.mem_append_right _ (List.mem_append_right _ (List.mem_append_right _ (List.mem_append_left _ h))))))))))))))))))))))))))))
theorem qm_18 : ∀ w ∈ wsL_law_r18, w ∈ wsL_law := fun _ h => List.mem_append_left _ (List.mem_append_left _ (List.mem_append_left _ (List.mem_append_left _ (List.mem_append_left _ (List.mem_append_left _ (List.mem_append_left _ (List.mem_append_left _ (List.mem_append_left _ (List.mem_append_left _ (List.mem_append_left _ (List.mem_append_left _ (List.mem_append_right _ (List.mem_append_right _ (List.mem_append_right _ (List.mem_append_right _ (List.mem_append_right _ (List.mem_append_right _ (List.mem_append_right _ (List.mem_append_right _ (List.mem_append_right _ (List.mem_append_right _ (List.mem_append_right _ (List.mem_append_right _ (List.mem_append_right _ (List.mem_append_right _ (List.mem_append_right _ (List.mem_append_right _ (List.mem_append_right _ (List.mem_append_left _ h)))))))))))))))))))))))))))))
theorem qm_19 : ∀ w ∈ wsL_law_r19, w ∈ wsL_law := fun _ h => List.mem_append_left _ (List.mem_append_left _ (List.mem_append_left _ (List.mem_append_left _ (List.mem_append_left _ (List.mem_append_left _ (List.mem_append_left _ (List.mem_append_left _ (List.mem_append_left _ (List.mem_append_left _ (List.mem_append_left _ (List.mem_append_left _ (List.mem_append_right _ (List.mem_append_right _ (List.mem_append_right _ (List.mem_append_right _ (List.mem_append_right _ (List.mem_append_right _ (List.mem_append_right _ (List.mem_append_right _ (List.mem_append_right _ (List.mem_append_right _ (List.mem_append_right _ (List.mem_append_right _ (List.mem_append_right _ (List.mem_append_right _ (List.mem_append_right _ (List.mem_append_right _ (List.mem_append_right _ (List.mem_append_right _ (List.mem_append_left _ h))))))))))))))))))))))))))))))
theorem qm_20 : ∀ w ∈ wsL_law_r20, w ∈ wsL_law := fun _ h => List.mem_append_left _ (List.mem_append_left _ (List.mem_append_left _ (List.mem_append_left _ (List.mem_append_left _ (List.mem_append_left _ (List.mem_append_left _ (List.mem_append_left _ (List.mem_append_left _ (List.mem_append_left _ (List.mem_append_left _ (List.mem_append_left _ (List.mem_append_right _ (List.mem_append_right _ (List.mem_append_right _ (List.mem_append_right _ (List.mem_append_right _ (List.mem_append_right _ (List.mem_append_right _ (List.mem_append_right _ (List.mem_append_right _ (List.mem_append_right _ (List.mem_append_right _ (List.mem_append_right _ (List.mem_append_right _ (List.mem_append_right _ (List.mem_append_right _ (List.mem_append_right _ (List.mem_append_right _ (List.mem_append_right _ (List.mem_append_right _ (List.mem_append_left _ h)))))))))))))))))))))))))))))))
theorem qm_21 : ∀ w ∈ wsL_law_r21, w ∈ wsL_law := fun _ h => List.mem_append_left _ (List.mem_append_left _ (List.mem_append_left _ (List.mem_append_left _ (List.mem_append_left _ (List.mem_append_left _ (List.mem_append_left _ (List.mem_append_left _ (List.mem_append_left _ (List.mem_append_left _ (List.mem_append_left _ (List.mem_append_left _ (List.mem_append_right _ (List.mem_append_right _ (List.mem_append_right _ (List.mem_append_right _ (List.mem_append_right _ (List.mem_append_right _ (List.mem_append_right _ (List.mem_append_right _ (List.mem_append_right _ (List.mem_append_right _ (List.mem_append_right _ (List.mem_append_right _ (List.mem_append_right _ (List.mem_append_right _ (List.mem_append_right _ (List.mem_append_right _ (List.mem_append_right _ (List.mem_append_right _ (List.mem_append_right _ (List.mem_append_right _ (List.mem_append_left _ h))))))))))))))))))))))))))))))))
theorem qm_22 : ∀ w ∈ wsL_law_r22, w ∈ wsL_law := fun _ h => List.mem_append_left _ (List.mem_append_left _ (List.mem_append_left _ (List.mem_append_left _ (List.mem_append_left _ (List.mem_append_left _ (List.mem_append_left _ (List.mem_append_left _ (List.mem_append_left _ (List.mem_append_left _ (List.mem_append_left _ (List.mem_append_left _ (List.mem_append_right _ (List.mem_append_right _ (List.mem_append_right _ (List.mem_append_right _ (List.mem_append_right _ (List.mem_append_right _ (List.mem_append_right _ (List.mem_append_right _ (List.mem_append_right _ (List.mem_append_right _ (List.mem_append_right _ (List.mem_append_right _ (List.mem_append_right _ (List.mem_append_right _ (List.mem_append_right _ (List.mem_append_right _ (List.mem_append_right _ (List.mem_append_right _ (List.mem_append_right _ (List.mem_append_right _ (List.mem_append_right _ (List.mem_append_left _ h)))))))))))))))))))))))))))))))))
theorem qm_23 : ∀ w ∈ wsL_law_r23, w ∈ wsL_law := fun _ h => List.mem_append_left _ (List.mem_append_left _ (List.mem_append_left _ (List.mem_append_left _ (List.mem_append_left _ (List.mem_append_left _ (List.mem_append_left _ (List.mem_append_left _ (List.mem_append_left _ (List.mem_append_left _ (List.mem_append_left _ (List.mem_append_left _ (List.mem_append_right _ (List.mem_append_right _ (List.mem_append_right _ (List.mem_append_right _ (List.mem_append_right _ (List.mem_append_right _ (List.mem_append_right _ (List.mem_append_right _ (List.mem_append_right _ (List.mem_append_right _ (List.mem_append_right _ (List.mem_append_right _ (List.mem_append_right _ (List.mem_append_right _ (List.mem_append_right _ (List.mem_append_right _ (List.mem_append_right _ (List.mem_append_right _ (List.mem_append_right _ (List.mem_append_right _ (List.mem_append_right _ (List.mem_append_right _ (List.mem_append_left _ h))))))))))))))))))))))))))))))))))
theorem qm_24 : ∀ w ∈ wsL_law_r24, w ∈ wsL_law := fun _ h => List.mem_append_left _ (List.mem_append_left _ (List.mem_append_left _ (List.mem_append_left _ (List.mem_append_left _ (List.mem_append_left _ (List.mem_append_left _ (List.mem_append_left _ (List.mem_append_left _ (List.mem_append_left _ (List.mem_append_left _ (List.mem_append_left _ (List.mem_append_right _ (List.mem_append_right _ (List.mem_append_right _ (List.mem_append_right _ (List.mem_append_right _ (List.mem_append_right _ (List.mem_append_right _ (List.mem_append_right _ (List.mem_append_right _ (List.mem_append_right _ (List.mem_append_right _ (List.mem_append_right _ (List.mem_append_right _ (List.mem_append_right _ (List.mem_append_right _ (List.mem_append_right _ (List.mem_append_right _ (List.mem_append_right _ (List.mem_append_right _ (List.mem_append_right _ (List.mem_append_right _ (List.mem_append_right _ (List.mem_append_right _ (List.mem_append_left _ h)))))))))))))))))))))))))))))))))))
theorem qm_25 : ∀ w ∈ wsL_law_r25, w ∈ wsL_law := fun _ h => List.mem_append_left _ (List.mem_append_left _ (List.mem_append_left _ (List.mem_append_left _ (List.mem_append_left _ (List.mem_append_left _ (List.mem_append_left _ (List.mem_append_left _ (List.mem_append_left _ (List.mem_append_left _ (List.mem_append_left _ (List.mem_append_left _ (List.mem_append_right _ (List.mem_append_right _ (List.mem_append_right _ (List.mem_append_right _ (List.mem_append_right _ (List.mem_append_right _ (List.mem_append_right _ (List.mem_append_right _ (List.mem_append_right _ (List.mem_append_right _ (List.mem_append_right _ (List.mem_append_right _ (List.mem_append_right _ (List.mem_append_right _ (List.mem_append_right _ (List.mem_append_right _ (List.mem_append_right _ (List.mem_append_right _ (List.mem_append_right _ (List.mem_append_right _ (List.mem_append_right _ (List.mem_append_right _ (List.mem_append_right _ (List.mem_append_right _ (List.mem_append_left _ h))))))))))))))))))))))))))))))))))))
theorem qm_26 : ∀ w ∈ wsL_law_r26, w ∈ wsL_law := fun _ h => List.mem_append_left _ (List.mem_append_left _ (List.mem_append_left _ (List.mem_append_left _ (List.mem_append_left _ (List.mem_append_left _ (List.mem_append_left _ (List.mem_append_left _ (List.mem_append_left _ (List.mem_append_left _ (List.mem_append_left _ (List.mem_append_left _ (List.mem_append_right _ (List.mem_append_right _ (List.mem_append_right _ (List.mem_append_right _ (List.mem_append_right _ (List.mem_append_right _ (List.mem_append_right _ (List.mem_append_right _ (List.mem_append_right _ (List.mem_append_right _ (List.mem_append_right _ (List.mem_append_right _ (List.mem_append_right _ (List.mem_append_right _ (List.mem_append_right _ (List.mem_append_right _ (List.mem_append_right _ (List.mem_append_right _ (List.mem_append_right _ (List.mem_append_right _ (List.mem_append_right _ (List.mem_append_right _ (List.mem_append_right _ (List.mem_append_right _ (List.mem_append_right _ (List.mem_append_left _ h)))))))))))))))))))))))))))))))))))))
theorem qm_27 : ∀ w ∈ wsL_law_r27, w ∈ wsL_law := fun _ h => List.mem_append_left _ (List.mem_append_left _ (List.mem_append_left _ (List.mem_append_left _ (List.mem_append_left _ (List.mem_append_left _ (List.mem_append_left _ (List.mem_append_left _ (List.mem_append_left _ (List.mem_append_left _ (List.mem_append_left _ (List.mem_append_left _ (List.mem_append_right _ (List.mem_append_right _ (List.mem_append_right _ (List.mem_append_right _ (List.mem_append_right _ (List.mem_append_right _ (List.mem_append_right _ (List.mem_append_right _ (List.mem_append_right _ (List.mem_append_right _ (List.mem_append_right _ (List.mem_append_right _ (List.mem_append_right _ (List.mem_append_right _ (List.mem_append_right _ (List.mem_append_right _ (List.mem_append_right _ (List.mem_append_right _ (List.mem_append_right _ (List.mem_append_right _ (List.mem_append_right _ (List.mem_append_right _ (List.mem_append_right _ (List.mem_append_right _ (List.mem_append_right _ (List.mem_append_right _ (List.mem_append_left _ h))))))))))))))))))))))))))))))))))))))
theorem qm_28 : ∀ w ∈ wsL_law_r28, w ∈ wsL_law := fun _ h => List.mem_append_left _ (List.mem_append_left _ (List.mem_append_left _ (List.mem_append_left _ (List.mem_append_left _ (List.mem_append_left _ (List.mem_append_left _ (List.mem_append_left _ (List.mem_append_left _ (List.mem_append_left _ (List.mem_append_left _ (List.mem_append_left _ (List.mem_append_right _ (List.mem_append_right _ (List.mem_append_right _ (List.mem_append_right _ (List.mem_append_right _ (List.mem_append_right _ (List.mem_append_right _ (List.mem_append_right _ (List.mem_append_right _ (List.mem_append_right _ (List.mem_append_right _ (List.mem_append_right _ (List.mem_append_right _ (List.mem_append_right _ (List.mem_append_right _ (List.mem_append_right _ (List.mem_append_right _ (List.mem_append_right _ (List.mem_append_right _ (List.mem_append_right _ (List.mem_append_right _ (List.mem_append_right _ (List.mem_append_right _ (List.mem_append_right _ (List.mem_append_right _ (List.mem_append_right _ (List.mem_append_right _ (List.mem_append_left _ h)))))))))))))))))))))))))))))))))))))))
theorem qm_29 : ∀ w ∈ wsL_law_r29, w ∈ wsL_law := fun _ h => List.mem_append_left _ (List.mem_append_left _ (List.mem_append_left _ (List.mem_append_left _ (List.mem_append_left _ (List.mem_append_left _ (List.mem_append_left _ (List.mem_append_left _ (List.mem_append_left _ (List.mem_append_left _ (List.mem_append_left _ (List.mem_append_left _ (List.mem_append_right _ (List.mem_append_right _ (List.mem_append_right _ (List.mem_append_right _ (List.mem_append_right _ (List.mem_append_right _ (List.mem_append_right _ (List.mem_append_right _ (List.mem_append_right _ (List.mem_append_right _ (List.mem_append_right _ (List.mem_append_right _ (List.mem_append_right _ (List.mem_append_right _ (List.mem_append_right _ (List.mem_append_right _ (List.mem_append_right _ (List.mem_append_right _ (List.mem_append_right _ (List.mem_append_right _ (List.mem_append_right _ (List.mem_append_right _ (List.mem_append_right _ (List.mem_append_right _ (List.mem_append_right _ (List.mem_append_right _ (List.mem_append_right _ (List.mem_append_right _ (List.mem_append_left _ h))))))))))))))))))))))))))))))))))))))))
theorem qm_30 : ∀ w ∈ wsL_law_r30, w ∈ wsL_law := fun _ h => List.mem_append_left _ (List.mem_append_left _ (List.mem_append_left _ (List.mem_append_left _ (List.mem_append_left _ (List.mem_append_left _ (List.mem_append_left _ (List.mem_append_left _ (List.mem_append_left _ (List.mem_append_left _ (List.mem_append_left _ (List.mem_append_left _ (List.mem_append_right _ (List.mem_append_right _ (List.mem_append_right _ (List.mem_append_right _ (List.mem_append_right _ (List.mem_append_right _ (List.mem_append_right _ (List.mem_append_right _ (List.mem_append_right _ (List.mem_append_right _ (List.mem_append_right _ (List.mem_append_right _ (List.mem_append_right _ (List.mem_append_right _ (List.mem_append_right _ (List.mem_append_right _ (List.mem_append_right _ (List.mem_append_right _ (List.mem_append_right _ (List.mem_append_right _ (List.mem_append_right _ (List.mem_append_right _ (List.mem_append_right _ (List.mem_append_right _ (List.mem_append_right _ (List.mem_append_right _ (List.mem_append_right _ (List.mem_append_right _ (List.mem_append_right _ (List.mem_append_left _ h)))))))))))))))))))))))))))))))))))))))))
theorem qm_31 : ∀ w ∈ wsL_law_r31, w ∈ wsL_law := fun _ h => List.mem_append_left _ (List.mem_append_left _ (List.mem_append_left _ (List.mem_append_left _ (List.mem_append_left _ (List.mem_append_left _ (List.mem_append_left _ (List.mem_append_left _ (List.mem_append_left _ (List.mem_append_left _ (List.mem_append_left _ (List.mem_append_left _ (List.mem_append_right _ (List.mem_append_right _ (List.mem_append_right _ (List.mem_append_right _ (List.mem_append_right _ (List.mem_append_right _ (List.mem_append_right _ (List.mem_append_right _ (List.mem_append_right _ (List.mem_append_right _ (List.mem_append_right _ (List.mem_append_right _ (List.mem_append_right _ (List.mem_append_right _ (List.mem_append_right _ (List.mem_append_right _ (List.mem_append_right _ (List.mem_append_right _ (List.mem_append_right _ (List.mem_append_right _ (List.mem_append_right _ (List.mem_append_right _ (List.mem_append_right _ (List.mem_append_right _ (List.mem_append_right _ (List.mem_append_right _ (List.mem_append_right _ (List.mem_append_right _ (List.mem_append_right _ (List.mem_append_right _ (List.mem_append_left _ h))))))))))))))))))))))))))))))))))))))))))
theorem qm_32 : ∀ w ∈ wsL_law_r32, w ∈ wsL_law := fun _ h => List.mem_append_left _ (List.mem_append_left _ (List.mem_append_left _ (List.mem_append_left _ (List.mem_append_left _ (List.mem_append_left _ (List.mem_append_left _ (List.mem_append_left _ (List.mem_append_left _ (List.mem_append_left _ (List.mem_append_left _ (List.mem_append_left _ (List.mem_append_right _ (List.mem_append_right _ (List.mem_append_right _ (List.mem_append_right _ (List.mem_append_right _ (List.mem_append_right _ (List.mem_append_right _ (List.mem_append_right _ (List.mem_append_right _ (List.mem_append_right _ (List.mem_append_right _ (List.mem_append_right _ (List.mem_append_right _ (List.mem_append_right _ (List.mem_append_right _ (List.mem_append_right _ (List.mem_append_right _ (List.mem_append_right _ (List.mem_append_right _ (List.mem_append_right _ (List.mem_append_right _ (List.mem_append_right _ (List.mem_append_right _ (List.mem_append_right _ (List.mem_append_right _ (List.mem_append_right _ (List.mem_append_right _ (List.mem_append_right _ (List.mem_append_right _ (List.mem_append_right _ (List.mem_append_right _ (List.mem_append_left _ h)))))))))))))))))))))))))))))))))))))))))))
theorem qm_33 : ∀ w ∈ wsL_law_r33, w ∈ wsL_law := fun _ h => List.mem_append_left _ (List.mem_append_left _ (List.mem_append_left _ (List.mem_append_left _ (List.mem_append_left _ (List.mem_append_left _ (List.mem_append_left _ (List.mem_append_left _ (List.mem_append_left _ (List.mem_append_left _ (List.mem_append_left _ (List.mem_append_left _ (List.mem_append_right _ (List.mem_append_right _ (List.mem_append_right _ (List.mem_append_right _ (List.mem_append_right _ (List.mem_append_right _ (List.mem_append_right _ (List.mem_append_right _ (List.mem_append_right _ (List.mem_append_right _ (List.mem_append_right _ (List.mem_append_right _ (List.mem_append_right _ (List.mem_append_right _ (List.mem_append_right _ (List.mem_append_right _ (List.mem_append_right _ (List.mem_append_right _ (List.mem_append_right _ (List.mem_append_right _ (List.mem_append_right _ (List.mem_append_right _ (List.mem_append_right _ (List.mem_append_right _ (List.mem_append_right _ (List.mem_append_right _ (List.mem_append_right _ (List.mem_append_right _ (List.mem_append_right _ (List.mem_append_right _ (List.mem_append_right _ (List.mem_append_right _ (List.mem_append_left _ h))))))))))))))))))))))))))))))))))))))))))))
theorem qm_34 : ∀ w ∈ wsL_law_r34, w ∈ wsL_law := fun _ h => List.mem_append_left _ (List.mem_append_left _ (List.mem_append_left _ (List.mem_append_left _ (List.mem_append_left _ (List.mem_append_left _ (List.mem_append_left _ (List.mem_append_left _ (List.mem_append_left _ (List.mem_append_left _ (List.mem_append_left _ (List.mem_append_left _ (List.mem_append_right _ (List.mem_append_right _ (List.mem_append_right _ (List.mem_append_right _ (List.mem_append_right _ (List.mem_append_right _ (List.mem_append_right _ (List.mem_append_right _ (List.mem_append_right _ (List.mem_append_right _ (List.mem_append_right _ (List.mem_append_right _ (List.mem_append_right _ (List.mem_append_right _ (List.mem_append_right _ (List.mem_append_right _ (List.mem_append_right _ (List.mem_append_right _ (List.mem_append_right _ (List.mem_append_right _ (List.mem_append_right _ (List.mem_append_right _ (List.mem_append_right _ (List.mem_append_right _ (List.mem_append_right _ (List.mem_append_right _ (List.mem_append_right _ (List.mem_append_right _ (List.mem_append_right _ (List.mem_append_right _ (List.mem_append_right _ (List.mem_append_right _ (List.mem_append_right _ (List.mem_append_left _ h)))))))))))))))))))))))))))))))))))))))))))))
theorem qm_35 : ∀ w ∈ wsL_law_r35, w ∈ wsL_law := fun _ h => List.mem_append_left _ (List.mem_append_left _ (List.mem_append_left _ (List.mem_append_left _ (List.mem_append_left _ (List.mem_append_left _ (List.mem_append_left _ (List.mem_append_left _ (List.mem_append_left _ (List.mem_append_left _ (List.mem_append_left _ (List.mem_append_left _ (List.mem_append_right _ (List.mem_append_right _ (List.mem_append_right _ (List.mem_append_right _ (List.mem_append_right _ (List.mem_append_right _ (List.mem_append_right _ (List.mem_append_right _ (List.mem_append_right _ (List.mem_append_right _ (List.mem_append_right _ (List.mem_append_right _ (List.mem_append_right _ (List.mem_append_right _ (List.mem_append_right _ (List.mem_append_right _ (List.mem_append_right _ (List.mem_append_right _ (List.mem_append_right _ (List.mem_append_right _ (List.mem_append_right _ (List.mem_append_right _ (List.mem_append_right _ (List.mem_append_right _ (List.mem_append_right _ (List.mem_append_right _ (List.mem_append_right _ (List.mem_append_right _ (List.mem_append_right _ (List.mem_append_right _ (List.mem_append_right _ (List.mem_append_right _ (List.mem_append_right _ (List.mem_append_right _ (List.mem_append_left _ h))))))))))))))))))))))))))))))))))))))))))))))
theorem qm_36 : ∀ w ∈ wsL_law_r36, w ∈ wsL_law := fun _ h => List.mem_append_left _ (List.mem_append_left _ (List.mem_append_left _ (List.mem_append_left _ (List.mem_append_left _ (List.mem_append_left _ (List.mem_append_left _ (List.mem_append_left _ (List.mem_append_left _ (List.mem_append_left _ (List.mem_append_left _ (List.mem_append_left _ (List.mem_append_right _ (List.mem_append_right _ (List.mem_append_right _ (List.mem_append_right _ (List.mem_append_right _ (List.mem_append_right _ (List.mem_append_right _ (List.mem_append_right _ (List.mem_append_right _ (List.mem_append_right _ (List.mem_append_right _ (List.mem_append_right _ (List.mem_append_right _ (List.mem_append_right _ (List.mem_append_right _ (List.mem_append_right _ (List.mem_append_right _ (List.mem_append_right _ (List.mem_append_right _ (List.mem_append_right _ (List.mem_append_right _ (List.mem_append_right _ (List.mem_append_right _ (List.mem_append_right _ (List.mem_append_right _ (List.mem_append_right _ (List.mem_append_right _ (List.mem_append_right _ (List.mem_append_right _ (List.mem_append_right _ (List.mem_append_right _ (List.mem_append_right _ (List.mem_append_right _ (List.mem_append_right _ (List.mem_append_right _ (List.mem_append_left _ h)))))))))))))))))))))))))))))))))))))))))))))))
theorem qm_37 : ∀ w ∈ wsL_law_r37, w ∈ wsL_law := fun _ h => List.mem_append_left _ (List.mem_append_left _ (List.mem_append_left _ (List.mem_append_left _ (List.mem_append_left _ (List.mem_append_left _ (List.mem_append_left _ (List.mem_append_left _ (List.mem_append_left _ (List.mem_append_left _ (List.mem_append_left _ (List.mem_append_left _ (List.mem_append_right _ (List.mem_append_right _ (List.mem_append_right _ (List.mem_append_right _ (List.mem_append_right _ (List.mem_append_right _ (List.mem_append_right _ (List.mem_append_right _ (List.mem_append_right _ (List.mem_append_right _ (List.mem_append_right _ (List.mem_append_right _ (List.mem_append_right _ (List.mem_append_right _ (List.mem_append_right _ (List.mem_append_right _ (List.mem_append_right _ (List.mem_append_right _ (List.mem_append_right _ (List.mem_append_right _ (List.mem_append_right _ (List.mem_append_right _ (List.mem_append_right _ (List.mem_append_right _ (List.mem_append_right _ (List.mem_append_right _ (List.mem_append_right _ (List.mem_append_right _ (List.mem_append_right _ (List.mem_append_right _ (List.mem_append_right _ (List.mem_append_right _ (List.mem_append_right _ (List.mem_append_right _ (List.mem_append_right _ (List.mem_append_right _ (List.mem_append_left _ h))))))))))))))))))))))))))))))))))))))))))))))))
theorem qm_38 : ∀ w ∈ wsL_law_r38, w ∈ wsL_law := fun _ h => List.mem_append_left _ (List.mem_append_left _ (List.mem_append_left _ (List.mem_append_left _ (List.mem_append_left _ (List.mem_append_left _ (List.mem_append_left _ (List.mem_append_left _ (List.mem_append_left _ (List.mem_append_left _ (List.mem_append_left _ (List.mem_append_left _ (List.mem_append_right _ (List.mem_append_right _ (List.mem_append_right _ (List.mem_append_right _ (List.mem_append_right _ (List.mem_append_right _ (List.mem_append_right _ (List.mem_append_right _ (List.mem_append_right _ (List.mem_append_right _ (List.mem_append_right _ (List.mem_append_right _ (List.mem_append_right _ (List.mem_append_right _ (List.mem_append_right _ (List.mem_append_right _ (List.mem_append_right _ (List.mem_append_right _ (List.mem_append_right _ (List.mem_append_right _ (List.mem_append_right _ (List.mem_append_right _ (List.mem_append_right _ (List.mem_append_right _ (List.mem_append_right _ (List.mem_append_right _ (List.mem_append_right _ (List.mem_append_right _ (List.mem_append_right _ (List.mem_append_right _ (List.mem_append_right _ (List.mem_append_right _ (List.mem_append_right _ (List.mem_append_right _ (List.mem_append_right _ (List.mem_append_right _ (List.mem_append_right _ (List.mem_append_left _ h)))))))))))))))))))))))))))))))))))))))))))))))))
theorem qm_39 : ∀ w ∈ wsL_law_r39, w ∈ wsL_law := fun _ h => List.mem_append_left _ (List.mem_append_left _ (List.mem_append_left _ (List.mem_append_left _ (List.mem_append_left _ (List.mem_append_left _ (List.mem_append_left _ (List.mem_append_left _ (List.mem_append_left _ (List.mem_append_left _ (List.mem_append_left _ (List.mem_append_left _ (List.mem_append_right _ (List.mem_append_right _ (List.mem_append_right _ (List.mem_append_right _ (List.mem_append_right _ (List.mem_append_right _ (List.mem_append_right _ (List.mem_append_right _ (List.mem_append_right _ (List.mem_append_right _ (List.mem_append_right _ (List.mem_append_right _ (List.mem_append_right _ (List.mem_append_right _ (List.mem_append_right _ (List.mem_append_right _ (List.mem_append_right _ (List.mem_append_right _ (List.mem_append_right _ (List.mem_append_right _ (List.mem_append_right _ (List.mem_append_right _ (List.mem_append_right _ (List.mem_append_right _ (List.mem_append_right _ (List.mem_append_right _ (List.mem_append_right _ (List.mem_append_right _ (List.mem_append_right _ (List.mem_append_right _ (List.mem_append_right _ (List.mem_append_right _ (List.mem_append_right _ (List.mem_append_right _ (List.mem_append_right _ (List.mem_append_right _ (List.mem_append_right _ (List.mem_append_right _ (List.mem_append_left _ h))))))))))))))))))))))))))))))))))))))))))))))))))
theorem qm_40 : ∀ w ∈ wsL_law_r40, w ∈ wsL_law := fun _ h => List.mem_append_left _ (List.mem_append_left _ (List.mem_append_left _ (List.mem_append_left _ (List.mem_append_left _ (List.mem_append_left _ (List.mem_append_left _ (List.mem_append_left _ (List.mem_append_left _ (List.mem_append_left _ (List.mem_append_left _ (List.mem_append_left _ (List.mem_append_right _ (List.mem_append_right _ (List.mem_append_right _ (List.mem_append_right _ (List.mem_append_right _ (List.mem_append_right _ (List.mem_append_right _ (List.mem_append_right _ (List.mem_append_right _ (List.mem_append_right _ (List.mem_append_right _ (List.mem_append_right _ (List.mem_append_right _ (List.mem_append_right _ (List.mem_append_right _ (List.mem_append_right _ (List.mem_append_right _ (List.mem_append_right _ (List.mem_append_right _ (List.mem_append_right _ (List.mem_append_right _ (List.mem_append_right _ (List.mem_append_right _ (List.mem_append_right _ (List.mem_append_right _ (List.mem_append_right _ (List.mem_append_right _ (List.mem_append_right _ (List.mem_append_right _ (List.mem_append_right _ (List.mem_append_right _ (List.mem_append_right _ (List.mem_append_right _ (List.mem_append_right _ (List.mem_append_right _ (List.mem_append_right _ (List.mem_append_right _ (List.mem_append_right _ (List.mem_append_right _ (List.mem_append_left _ h)))))))))))))))))))))))))))))))))))))))))))))))))))
theorem qm_41 : ∀ w ∈ wsL_law_r41, w ∈ wsL_law := fun _ h => List.mem_append_left _ (List.mem_append_left _ (List.mem_append_left _ (List.mem_append_left _ (List.mem_append_left _ (List.mem_append_left _ (List.mem_append_left _ (List.mem_append_left _ (List.mem_append_left _ (List.mem_append_left _ (List.mem_append_left _ (List.mem_append_left _ (List.mem_append_right _ (List.mem_append_right _ (List.mem_append_right _ (List.mem_append_right _ (List.mem_append_right _ (List.mem_append_right _ (List.mem_append_right _ (List.mem_append_right _ (List.mem_append_right _ (List.mem_append_right _ (List.mem_append_right _ (List.mem_append_right _ (List.mem_append_right _ (List.mem_append_right _ (List.mem_append_right _ (List.mem_append_right _ (List.mem_append_right _ (List.mem_append_right _ (List.mem_append_right _ (List.mem_append_right _ (List.mem_append_right _ (List.mem_append_right _ (List.mem_append_right _ (List.mem_append_right _ (List.mem_append_right _ (List.mem_append_right _ (List.mem_append_right _ (List.mem_append_right _ (List.mem_append_right _ (List.mem_append_right _ (List.mem_append_right _ (List.mem_append_right _ (List.mem_append_right _ (List.mem_append_right _ (List.mem_append_right _ (List.mem_append_right _ (List.mem_append_right _ (List.mem_append_right _ (List.mem_append_right _ (List.mem_append_right _ (List.mem_append_left _ h))))))))))))))))))))))))))))))))))))))))))))))))))))
theorem qm_42 : ∀ w ∈ wsL_law_r42, w ∈ wsL_law := fun _ h => List.mem_append_left _ (List.mem_append_left _ (List.mem_append_left _ (List.mem_append_left _ (List.mem_append_left _ (List.mem_append_left _ (List.mem_append_left _ (List.mem_append_left _ (List.mem_append_left _ (List.mem_append_left _ (List.mem_append_left _ (List.mem_append_left _ (List.mem_append_right _ (List.mem_append_right _ (List.mem_append_right _ (List.mem_append_right _ (List.mem_append_right _ (List.mem_append_right _ (List.mem_append_right _ (List.mem_append_right _ (List.mem_append_right _ (List.mem_append_right _ (List.mem_append_right _ (List.mem_append_right _ (List.mem_append_right _ (List.mem_append_right _ (List.mem_append_right _ (List.mem_append_right _ (List.mem_append_right _ (List.mem_append_right _ (List.mem_append_right _ (List.mem_append_right _ (List.mem_append_right _ (List.mem_append_right _ (List.mem_append_right _ (List.mem_append_right _ (List.mem_append_right _ (List.mem_append_right _ (List.mem_append_right _ (List.mem_append_right _ (List.mem_append_right _ (List.mem_append_right _ (List.mem_append_right _ (List.mem_append_right _ (List.mem_append_right _ (List.mem_append_right _ (List.mem_append_right _ (List.mem_append_right _ (List.mem_append_right _ (List.mem_append_right _ (List.mem_append_right _ (List.mem_append_right _ (List.mem_append_right _ (List.mem_append_left _ h)))))))))))))))))))))))))))))))))))))))))))))))))))))
theorem qm_43 : ∀ w ∈ wsL_law_r43, w ∈ wsL_law := fun _ h => List.mem_append_left _ (List.mem_append_left _ (List.mem_append_left _ (List.mem_append_left _ (List.mem_append_left _ (List.mem_append_left _ (List.mem_append_left _ (List.mem_append_left _ (List.mem_append_left _ (List.mem_append_left _ (List.mem_append_left _ (List.mem_append_left _ (List.mem_append_right _ (List.mem_append_right _ (List.mem_append_right _ (List.mem_append_right _ (List.mem_append_right _ (List.mem_append_right _ (List.mem_append_right _ (List.mem_append_right _ (List.mem_append_right _ (List.mem_append_right _ (List.mem_append_right _ (List.mem_append_right _ (List.mem_append_right _ (List.mem_append_right _ (List.mem_append_right _ (List.mem_append_right _ (List.mem_append_right _ (List.mem_append_right _ (List.mem_append_right _ (List.mem_append_right _ (List.mem_append_right _ (List.mem_append_right _ (List.mem_append_right _ (List.mem_append_right _ (List.mem_append_right _ (List.mem_append_right _ (List.mem_append_right _ (List.mem_append_right _ (List.mem_append_right _ (List.mem_append_right _ (List.mem_append_right _ (List.mem_append_right _ (List.mem_append_right _ (List.mem_append_right _ (List.mem_append_right _ (List.mem_append_right _ (List.mem_append_right _ (List.mem_append_right _ (List.mem_append_right _ (List.mem_append_right _ (List.mem_append_right _ (List.mem_append_right _ (List.mem_append_left _ h))))))))))))))))))))))))))))))))))))))))))))))))))))))
theorem qm_44 : ∀ w ∈ wsL_law_r44, w ∈ wsL_law := fun _ h => List.mem_append_left _ (List.mem_append_left _ (List.mem_append_left _ (List.mem_append_left _ (List.mem_append_left _ (List.mem_append_left _ (List.mem_append_left _ (List.mem_append_left _ (List.mem_append_left _ (List.mem_append_left _ (List.mem_append_left _ (List.mem_append_left _ (List.mem_append_right _ (List.mem_append_right _ (List.mem_append_right _ (List.mem_append_right _ (List.mem_append_right _ (List.mem_append_right _ (List.mem_append_right _ (List.mem_append_right _ (List.mem_append_right _ (List.mem_append_right _ (List.mem_append_right _ (List.mem_append_right _ (List.mem_append_right _ (List.mem_append_right _ (List.mem_append_right _ (List.mem_append_right _ (List.mem_append_right _ (List.mem_append_right _ (List.mem_append_right _ (List.mem_append_right _ (List.mem_append_right _ (List.mem_append_right _ (List.mem_append_right _ (List.mem_append_right _ (List.mem_append_right _ (List.mem_append_right _ (List.mem_append_right _ (List.mem_append_right _ (List.mem_append_right _ (List.mem_append_right _ (List.mem_append_right _ (List.mem_append_right _ (List.mem_append_right _ (List.mem_append_right _ (List.mem_append_right _ (List.mem_append_right _ (List.mem_append_right _ (List.mem_append_right _ (List.mem_append_right _ (List.mem_append_right _ (List.mem_append_right _ (List.mem_append_right _ (List.mem_append_right _ (List.mem_append_left _ h)))))))))))))))))))))))))))))))))))))))))))))))))))))))
theorem qm_45 : ∀ w ∈ wsL_law_r45, w ∈ wsL_law := fun _ h => List.mem_append_left _ (List.mem_append_left _ (List.mem_append_left _ (List.mem_append_left _ (List.mem_append_left _ (List.mem_append_left _ (List.mem_append_left _ (List.mem_append_left _ (List.mem_append_left _ (List.mem_append_left _ (List.mem_append_left _ (List.mem_append_left _ (List.mem_append_right _ (List.mem_append_right _ (List.mem_append_right _ (List.mem_append_right _ (List.mem_append_right _ (List.mem_append_right _ (List.mem_append_right _ (List.mem_append_right _ (List.mem_append_right _ (List.mem_append_right _ (List.mem_append_right _ (List.mem_append_right _ (List.mem_append_right _ (List.mem_append_right _ (List.mem_append_right _ (List.mem_append_right _ (List.mem_append_right _ (List.mem_append_right _ (List.mem_append_right _ (List.mem_append_right _ (List.mem_append_right _ (List.mem_append_right _ (List.mem_append_right _ (List.mem_append_right _ (List.mem_append_right _ (List.mem_append_right _ (List.mem_append_right _ (List.mem_append_right _ (List.mem_append_right _ (List.mem_append_right _ (List.mem_append_right _ (List.mem_append_right _ (List.mem_append_right _ (List.mem_append_right _ (List.mem_append_right _ (List.mem_append_right _ (List.mem_append_right _ (List.mem_append_right _ (List.mem_append_right _ (List.mem_append_right _ (List.mem_append_right _ (List.mem_append_right _ (List.mem_append_right _ (List.mem_append_right _ (List.mem_append_left _ h))))))))))))))))))))))))))))))))))))))))))))))))))))))))
theorem qm_46 : ∀ w ∈ wsL_law_r46, w ∈ wsL_law := fun _ h => List.mem_append_left _ (List.mem_append_left _ (List.mem_append_left _ (List.mem_append_left _ (List.mem_append_left _ (List.mem_append_left _ (List.mem_append_left _ (List.mem_append_left _ (List.mem_append_left _ (List.mem_append_left _ (List.mem_append_left _ (List.mem_append_left _ (List.mem_append_right _ (List.mem_append_right _ (List.mem_append_right _ (List.mem_append_right _ (List.mem_append_right _ (List.mem_append_right _ (List.mem_append_right _ (List.mem_append_right _ (List.mem_append_right _ (List.mem_append_right _ (List.mem_append_right _ (List.mem_append_right _ (List.mem_append_right _ (List.mem_append_right _ (List.mem_append_right _ (List.mem_append_right _ (List.mem_append_right _ (List.mem_append_right _ (List.mem_append_right _ (List.mem_append_right _ (List.mem_append_right _ (List.mem_append_right _ (List.mem_append_right _ (List.mem_append_right _ (List.mem_append_right _ (List.mem_append_right _ (List.mem_append_right _ (List.mem_append_right _ (List.mem_append_right _ (List.mem_append_right _ (List.mem_append_right _ (List.mem_append_right _ (List.mem_append_right _ (List.mem_append_right _ (List.mem_append_right _ (List.mem_append_right _ (List.mem_append_right _ (List.mem_append_right _ (List.mem_append_right _ (List.mem_append_right _ (List.mem_append_right _ (List.mem_append_right _ (List.mem_append_right _ (List.mem_append_right _ (List.mem_append_right _ (List.mem_append_left _ h)))))))))))))))))))))))))))))))))))))))))))))))))))))))))
theorem qm_47 : ∀ w ∈ wsL_law_r47, w ∈ wsL_law := fun _ h => List.mem_append_left _ (List.mem_append_left _ (List.mem_append_left _ (List.mem_append_left _ (List.mem_append_left _ (List.mem_append_left _ (List.mem_append_left _ (List.mem_append_left _ (List.mem_append_left _ (List.mem_append_left _ (List.mem_append_left _ (List.mem_append_left _ (List.mem_append_right _ (List.mem_append_right _ (List.mem_append_right _ (List.mem_append_right _ (List.mem_append_right _ (List.mem_append_right _ (List.mem_append_right _ (List.mem_append_right _ (List.mem_append_right _ (List.mem_append_right _ (List.mem_append_right _ (List.mem_append_right _ (List.mem_append_right _ (List.mem_append_right _ (List.mem_append_right _ (List.mem_append_right _ (List.mem_append_right _ (List.mem_append_right _ (List.mem_append_right _ (List.mem_append_right _ (List.mem_append_right _ (List.mem_append_right _ (List.mem_append_right _ (List.mem_append_right _ (List.mem_append_right _ (List.mem_append_right _ (List.mem_append_right _ (List.mem_append_right _ (List.mem_append_right _ (List.mem_append_right _ (List.mem_append_right _ (List.mem_append_right _ (List.mem_append_right _ (List.mem_append_right _ (List.mem_append_right _ (List.mem_append_right _ (List.mem_append_right _ (List.mem_append_right _ (List.mem_append_right _ (List.mem_append_right _ (List.mem_append_right _ (List.mem_append_right _ (List.mem_append_right _ (List.mem_append_right _ (List.mem_append_right _ (List.mem_append_right _ (List.mem_append_left _ h))))))))))))))))))))))))))))))))))))))))))))))))))))))))))
theorem qm_48 : ∀ w ∈ wsL_law_r48, w ∈ wsL_law := fun _ h => List.mem_append_left _ (List.mem_append_left _ (List.mem_append_left _ (List.mem_append_left _ (List.mem_append_left _ (List.mem_append_left _ (List.mem_append_left _ (List.mem_append_left _ (List.mem_append_left _ (List.mem_append_left _ (List.mem_append_left _ (List.mem_append_left _ (List.mem_append_right _ (List.mem_append_right _ (List.mem_append_right _ (List.mem_append_right _ (List.mem_append_right _ (List.mem_append_right _ (List.mem_append_right _ (List.mem_append_right _ (List.mem_append_right _ (List.mem_append_right _ (List.mem_append_right _ (List.mem_append_right _ (List.mem_append_right _ (List.mem_append_right _ (List.mem_append_right _ (List.mem_append_right _ (List.mem_append_right _ (List.mem_append_right _ (List.mem_append_right _ (List.mem_append_right _ (List.mem_append_right _ (List.mem_append_right _ (List.mem_append_right _ (List.mem_append_right _ (List.mem_append_right _ (List.mem_append_right _ (List.mem_append_right _ (List.mem_append_right _ (List.mem_append_right _ (List.mem_append_right _ (List.mem_append_right _ (List.mem_append_right _ (List.mem_append_right _ (List.mem_append_right _ (List.mem_append_right _ (List.mem_append_right _ (List.mem_append_right _ (List.mem_append_right _ (List.mem_append_right _ (List.mem_append_right _ (List.mem_append_right _ (List.mem_append_right _ (List.mem_append_right _ (List.mem_append_right _ (List.mem_append_right _ (List.mem_append_right _ (List.mem_append_right _ (List.mem_append_left _ h)))))))))))))))))))))))))))))))))))))))))))))))))))))))))))
theorem qm_49 : ∀ w ∈ wsL_law_r49, w ∈ wsL_law := fun _ h => List.mem_append_left _ (List.mem_append_left _ (List.mem_append_left _ (List.mem_append_left _ (List.mem_append_left _ (List.mem_append_left _ (List.mem_append_left _ (List.mem_append_left _ (List.mem_append_left _ (List.mem_append_left _ (List.mem_append_left _ (List.mem_append_left _ (List.mem_append_right _ (List.mem_append_right _ (List.mem_append_right _ (List.mem_append_right _ (List.mem_append_right _ (List.mem_append_right _ (List.mem_append_right _ (List.mem_append_right _ (List.mem_append_right _ (List.mem_append_right _ (List.mem_append_right _ (List.mem_append_right _ (List.mem_append_right _ (List.mem_append_right _ (List.mem_append_right _ (List.mem_append_right _ (List.mem_append_right _ (List.mem_append_right _ (List.mem_append_right _ (List.mem_append_right _ (List.mem_append_right _ (List.mem_append_right _ (List.mem_append_right _ (List.mem_append_right _ (List.mem_append_right _ (List.mem_append_right _ (List.mem_append_right _ (List.mem_append_right _ (List.mem_append_right _ (List.mem_append_right _ (List.mem_append_right _ (List.mem_append_right _ (List.mem_append_right _ (List.mem_append_right _ (List.mem_append_right _ (List.mem_append_right _ (List.mem_append_right _ (List.mem_append_right _ (List.mem_append_right _ (List.mem_append_right _ (List.mem_append_right _ (List.mem_append_right _ (List.mem_append_right _ (List.mem_append_right _ (List.mem_append_right _ (List.mem_append_right _ (List.mem_append_right _ (List.mem_append_right _ (List.mem_append_left _ h))))))))))))))))))))))))))))))))))))))))))))))))))))))))))))
theorem qm_50 : ∀ w ∈ wsL_law_r50, w ∈ wsL_law := fun _ h => List.mem_append_left _ (List.mem_append_left _ (List.mem_append_left _ (List.mem_append_left _ (List.mem_append_left _ (List.mem_append_left _ (List.mem_append_left _ (List.mem_append_left _ (List.mem_append_left _ (List.mem_append_left _ (List.mem_append_left _ (List.mem_append_left _ (List.mem_append_right _ (List.mem_append_right _ (List.mem_append_right _ (List.mem_append_right _ (List.mem_append_right _ (List.mem_append_right _ (List.mem_append_right _ (List.mem_append_right _ (List.mem_append_right _ (List.mem_append_right _ (List.mem_append_right _ (List.mem_append_right _ (List.mem_append_right _ (List.mem_append_right _ (List.mem_append_right _ (List.mem_append_right _ (List.mem_append_right _ (List.mem_append_right _ (List.mem_append_right _ (List.mem_append_right _ (List.mem_append_right _ (List.mem_append_right _ (List.mem_append_right _ (List.mem_append_right _ (List.mem_append_right _ (List.mem_append_right _ (List.mem_append_right _ (List.mem_append_right _ (List.mem_append_right _ (List.mem_append_right _ (List.mem_append_right _ (List.mem_append_right _ (List.mem_append_right _ (List.mem_append_right _ (List.mem_append_right _ (List.mem_append_right _ (List.mem_append_right _ (List.mem_append_right _ (List.mem_append_right _ (List.mem_append_right _ (List.mem_append_right _ (List.mem_append_right _ (List.mem_append_right _ (List.mem_append_right _ (List.mem_append_right _ (List.mem_append_right _ (List.mem_append_right _ (List.mem_append_right _ (List.mem_append_right _ (List.mem_append_left _ h)))))))))))))))))))))))))))))))))))))))))))))))))))))))))))))
theorem qm_51 : ∀ w ∈ wsL_law_r51, w ∈ wsL_law := fun _ h => List.mem_append_left _ (List.mem_append_left _ (List.mem_append_left _ (List.mem_append_left _ (List.mem_append_left _ (List.mem_append_left _ (List.mem_append_left _ (List.mem_append_left _ (List.mem_append_left _ (List.mem_append_left _ (List.mem_append_left _ (List.mem_append_left _ (List.mem_append_right _ (List.mem_append_right _ (List.mem_append_right _ (List.mem_append_right _ (List.mem_append_right _ (List.mem_append_right _ (List.mem_append_right _ (List.mem_append_right _ (List.mem_append_right _ (List.mem_append_right _ (List.mem_append_right _ (List.mem_append_right _ (List.mem_append_right _ (List.mem_append_right _ (List.mem_append_right _ (List.mem_append_right _ (List.mem_append_right _ (List.mem_append_right _ (List.mem_append_right _ (List.mem_append_right _ (List.mem_append_right _ (List.mem_append_right _ (List.mem_append_right _ (List.mem_append_right _ (List.mem_append_right _ (List.mem_append_right _ (List.mem_append_right _ (List.mem_append_right _ (List.mem_append_right _ (List.mem_append_right _ (List.mem_append_right _ (List.mem_append_right _ (List.mem_append_right _ (List.mem_append_right _ (List.mem_append_right _ (List.mem_append_right _ (List.mem_append_right _ (List.mem_append_right _ (List.mem_append_right _ (List.mem_append_right _ (List.mem_append_right _ (List.mem_append_right _ (List.mem_append_right _ (List.mem_append_right _ (List.mem_append_right _ (List.mem_append_right _ (List.mem_append_right _ (List.mem_append_right _ (List.mem_append_right _ (List.mem_append_right _ (List.mem_append_left _ h))))))))))))))))))))))))))))))))))))))))))))))))))))))))))))))
theorem qm_52 : ∀ w ∈ wsL_law_r52, w ∈ wsL_law := fun _ h => List.mem_append_left _ (List.mem_append_left _ (List.mem_append_left _ (List.mem_append_left _ (List.mem_append_left _ (List.mem_append_left _ (List.mem_append_left _ (List.mem_append_left _ (List.mem_append_left _ (List.mem_append_left _ (List.mem_append_left _ (List.mem_append_left _ (List.mem_append_right _ (List.mem_append_right _ (List.mem_append_right _ (List.mem_append_right _ (List.mem_append_right _ (List.mem_append_right _ (List.mem_append_right _ (List.mem_append_right _ (List.mem_append_right _ (List.mem_append_right _ (List.mem_append_right _ (List.mem_append_right _ (List.mem_append_right _ (List.mem_append_right _ (List.mem_append_right _ (List.mem_append_right _ (List.mem_append_right _ (List.mem_append_right _ (List.mem_append_right _ (List.mem_append_right _ (List.mem_append_right _ (List.mem_append_right _ (List.mem_append_right _ (List.mem_append_right _ (List.mem_append_right _ (List.mem_append_right _ (List.mem_append_right _ (List.mem_append_right _ (List.mem_append_right _ (List.mem_append_right _ (List.mem_append_right _ (List.mem_append_right _ (List.mem_append_right _ (List.mem_append_right _ (List.mem_append_right _ (List.mem_append_right _ (List.mem_append_right _ (List.mem_append_right _ (List.mem_append_right _ (List.mem_append_right _ (List.mem_append_right _ (List.mem_append_right _ (List.mem_append_right _ (List.mem_append_right _ (List.mem_append_right _ (List.mem_append_right _ (List.mem_append_right _ (List.mem_append_right _ (List.mem_append_right _ (List.mem_append_right _ (List.mem_append_right _ (List.mem_append_left _ h)))))))))))))))))))))))))))))))))))))))))))))))))))))))))))))))
theorem qm_53 : ∀ w ∈ wsL_law_r53, w ∈ wsL_law := fun _ h => List.mem_append_left _ (List.mem_append_left _ (List.mem_append_left _ (List.mem_append_left _ (List.mem_append_left _ (List.mem_append_left _ (List.mem_append_left _ (List.mem_append_left _ (List.mem_append_left _ (List.mem_append_left _ (List.mem_append_left _ (List.mem_append_left _ (List.mem_append_right _ (List.mem_append_right _ (List.mem_append_right _ (List.mem_append_right _ (List.mem_append_right _ (List.mem_append_right _ (List.mem_append_right _ (List.mem_append_right _ (List.mem_append_right _ (List.mem_append_right _ (List.mem_append_right _ (List.mem_append_right _ (List.mem_append_right _ (List.mem_append_right _ (List.mem_append_right _ (List.mem_append_right _ (List.mem_append_right _ (List.mem_append_right _ (List.mem_append_right _ (List.mem_append_right _ (List.mem_append_right _ (List.mem_append_right _ (List.mem_append_right _ (List.mem_append_right _ (List.mem_append_right _ (List.mem_append_right _ (List.mem_append_right _ (List.mem_append_right _ (List.mem_append_right _ (List.mem_append_right _ (List.mem_append_right _ (List.mem_append_right _ (List.mem_append_right _ (List.mem_append_right _ (List.mem_append_right _ (List.mem_append_right _ (List.mem_append_right _ (List.mem_append_right _ (List.mem_append_right _ (List.mem_append_right _ (List.mem_append_right _ (List.mem_append_right _ (List.mem_append_right _ (List.mem_append_right _ (List.mem_append_right _ (List.mem_append_right _ (List.mem_append_right _ (List.mem_append_right _ (List.mem_append_right _ (List.mem_append_right _ (List.mem_append_right _ (List.mem_append_right _ (h))))))))))))))))))))))))))))))))))))))))))))))))))))))))))))))))
set_option maxRecDepth 20000 in
theorem qGood : wsL_law.all goodWord = true := by decide +kernel
abbrev vwCl : List vw_C := [(RX0, TX0, 3), (RX1, TX1, 4), (RX3, TX3, 4), (RX4, TX4, 3), (RX5, TX5, 6), (RX6, TX6, 3), (RX7, TX7, 3), (RX8, TX8, 2), (RX9, TX9, 6), (RX10, TX10, 11), (RX11, TX11, 39)]
